public final class Promise06CountTest {
    public static void main(String[] args) {
        countsAll();
        refusesOtherNumbers();
        countsShorteningNowhere();
        Expect.done();
    }

    private static int[] row(int op, int a, int b) {
        return Expect.row(op, a, b);
    }

    private static void counts(String when, EdgeCampaign x, int... due) {
        for (int which = 0; which < due.length; which++) {
            Expect.same(when + ": count(" + which + ")", x.count(which), due[which]);
        }
    }

    /** Goes along 3-4 and 4-2 as often as the first byte says, then 3-5, and traps if there are two bytes. */
    private static EdgeCampaign looping() {
        return Expect.campaign(1, row(2, 0, 1), row(1, 2, -1), row(3, 0, 2), row(7, 0, 5), row(8, 0, 2),
            row(15, 0, 0), row(12, 0, 2));
    }

    private static void countsAll() {
        EdgeCampaign x = looping();
        counts("new", x, 0, 0, 0, 0, 0, 0, 0);
        x.plant();
        counts("no bytes", x, 1, 0, 0, 1, 0, 1, 1);
        Expect.plant(x, 0);
        counts("0", x, 2, 0, 0, 1, 0, 1, 1);
        Expect.plant(x, 2);
        counts("2", x, 3, 0, 0, 2, 0, 3, 3);
        Expect.plant(x, 1, 9);
        counts("1 9", x, 4, 0, 0, 3, 1, 3, 5);
        Expect.plant(x, 255);
        counts("255", x, 5, 1, 0, 4, 1, 3, 7);
        Expect.plant(x, 2, 9);
        counts("2 9", x, 6, 1, 0, 4, 1, 3, 7);
        Expect.plant(x, 254, 254, 254);
        counts("254 254 254", x, 7, 2, 0, 4, 1, 3, 7);
        x.fuzz(3);
        Expect.same("executions by fuzz", x.count(0), 10);
    }

    private static void refusesOtherNumbers() {
        int[] wrong = {Integer.MIN_VALUE, -2, -1, 7, 8, Integer.MAX_VALUE};
        EdgeCampaign x = looping();
        Expect.plant(x, 1);
        String before = Expect.all(x);
        for (int which : wrong) {
            Expect.same("count(" + which + ")", x.count(which), -1);
        }
        Expect.sameText("nothing changed", Expect.all(x), before);
    }

    /** Hangs on less than six bytes, so that each trial of the shortening hangs, on edges that are new. */
    private static void countsShorteningNowhere() {
        EdgeCampaign x = Expect.campaign(1, row(15, 0, 0), row(1, 1, -6), row(3, 0, 1), row(6, 0, 5),
            row(8, 0, 4), row(12, 0, 0));
        Expect.plant(x, 1, 2, 3, 4, 5, 6);
        counts("six bytes", x, 1, 0, 0, 1, 1, 1, 1);
        Expect.same("seen(4, 4)", x.seen(4, 4), 0);
        Expect.same("shortest", x.finding(0, 8), 6);
    }
}
