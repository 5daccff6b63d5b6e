public final class Promise07EntryTest {
    public static void main(String[] args) {
        answersWhatTheRunDid();
        refusesWhatIsNotThere();
        favoursTheCheapest();
        favoursTheLeastNumberOfSeveral();
        favoursInTheOrderOfEdges();
        countsHowOftenItWasFinished();
        Expect.done();
    }

    private static int[] row(int op, int a, int b) {
        return Expect.row(op, a, b);
    }

    /** Goes along 3-4 and 4-2 as often as the first byte says, then 3-5. Steps: 5, and 3 more each time. */
    private static EdgeCampaign looping() {
        return Expect.campaign(1, row(2, 0, 1), row(1, 2, -1), row(3, 0, 2), row(7, 0, 5), row(8, 0, 2), row(0, 0, 0));
    }

    private static void entry(EdgeCampaign x, int e, int... due) {
        for (int which = 0; which < due.length; which++) {
            Expect.same("entry(" + e + ", " + which + ")", x.entry(e, which), due[which]);
        }
    }

    private static void answersWhatTheRunDid() {
        EdgeCampaign x = looping();
        x.plant();
        entry(x, 0, 0, 5, 1, 0, 1);
        Expect.plant(x, 2, 7, 7);
        entry(x, 1, 3, 11, 3, 0, 1);
        Expect.plant(x, 255, 1, 2, 3, 4, 5);
        entry(x, 2, 6, 64, 2, 0, 0);
        entry(x, 0, 0, 5, 1, 0, 0);
    }

    private static void refusesWhatIsNotThere() {
        EdgeCampaign x = looping();
        x.plant();
        String before = Expect.all(x);
        int[] wrong = {Integer.MIN_VALUE, -1, 5, 6, Integer.MAX_VALUE};
        for (int which : wrong) {
            Expect.same("entry(0, " + which + ")", x.entry(0, which), -1);
        }
        int[] none = {Integer.MIN_VALUE, -1, 1, 15, 16, 17, Integer.MAX_VALUE};
        for (int e : none) {
            for (int which = -1; which <= 5; which++) {
                Expect.same("entry(" + e + ", " + which + ")", x.entry(e, which), -1);
            }
        }
        Expect.sameText("nothing changed", Expect.all(x), before);
    }

    private static void favoured(String when, EdgeCampaign x, int... due) {
        for (int e = 0; e < due.length; e++) {
            Expect.same(when + ": entry(" + e + ", 4)", x.entry(e, 4), due[e]);
        }
    }

    private static void favoursTheCheapest() {
        EdgeCampaign x = looping();
        Expect.plant(x, 4, 4, 4);
        favoured("steps 17, 3 bytes", x, 1);
        Expect.plant(x, 8, 4);
        favoured("steps 29, 2 bytes cost more", x, 1, 0);
        Expect.plant(x, 3);
        favoured("steps 14, 1 byte", x, 0, 0, 1);
        Expect.plant(x, 2, 0, 0, 0, 0);
        favoured("steps 11, 5 bytes", x, 0, 0, 1, 0);
        Expect.plant(x, 1, 0);
        favoured("steps 8, 2 bytes", x, 0, 0, 0, 0, 1);
    }

    private static void favoursTheLeastNumberOfSeveral() {
        int[] sixBytes = {1, 0, 0, 0, 0, 0};
        int[] threeBytes = {3, 0, 0};
        sameCost(sixBytes, threeBytes);
        sameCost(threeBytes, sixBytes);
    }

    /** 8 steps and 6 bytes cost 56, as 14 steps and 3 bytes do; 9 rounds are 32 steps, which cost 64 with 1 byte. */
    private static void sameCost(int[] first, int[] second) {
        EdgeCampaign x = looping();
        Expect.plant(x, 9);
        Expect.plant(x, first);
        favoured("56 against 64", x, 0, 1);
        Expect.plant(x, second);
        Expect.same("cost", x.entry(1, 1) * (1 + x.entry(1, 0)), 56);
        Expect.same("cost", x.entry(2, 1) * (1 + x.entry(2, 0)), 56);
        favoured("56 twice", x, 0, 1, 0);
    }

    private static void favoursInTheOrderOfEdges() {
        EdgeCampaign x = looping();
        x.plant();
        favoured("no bytes, along 3-5", x, 1);
        Expect.plant(x, 2);
        // 3-4 comes before 3-5 and has entry 1 alone, which does for 3-5 too, dearer as it is.
        favoured("one byte, along 3-4, 3-5 and 4-2", x, 0, 1);
        EdgeCampaign y = Expect.campaign(1, row(8, 0, 1), row(2, 0, 1), row(12, 0, -1), row(8, 0, 4), row(0, 0, 0));
        y.plant();
        favoured("no bytes, along 0-1", y, 1);
        Expect.plant(y, 5);
        // 0-1 comes first, and entry 0 is its top; 3-4 has entry 1 alone. From behind, entry 1 would do for both.
        favoured("one byte, along 0-1 and 3-4", y, 1, 1);
    }

    private static void countsHowOftenItWasFinished() {
        EdgeCampaign x = Expect.campaign(1, row(8, 0, 1), row(0, 0, 0));
        Expect.plant(x, 1);
        x.fuzz(17);
        Expect.same("behind 17 trials", x.entry(0, 3), 0);
        x.fuzz(1);
        Expect.same("behind 18 trials", x.entry(0, 3), 1);
        x.fuzz(1);
        Expect.same("behind 19 trials", x.entry(0, 3), 1);
        x.fuzz(1);
        Expect.same("behind 20 trials", x.entry(0, 3), 2);
        x.fuzz(20);
        Expect.same("behind 40 trials", x.entry(0, 3), 12);
    }
}
