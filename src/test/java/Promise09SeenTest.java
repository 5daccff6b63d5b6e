public final class Promise09SeenTest {
    public static void main(String[] args) {
        addsUpBuckets();
        seesThePairsOfEntriesAlone();
        isNothingForOtherPlaces();
        Expect.done();
    }

    private static EdgeCampaign looping() {
        return Expect.campaign(1, Expect.row(2, 0, 1), Expect.row(1, 2, -1), Expect.row(3, 0, 2),
            Expect.row(7, 0, 5), Expect.row(8, 0, 2), Expect.row(0, 0, 0));
    }

    private static void addsUpBuckets() {
        EdgeCampaign x = looping();
        int[] bytes = {3, 0, 1, 20, 16, 8, 2, 6, 5};
        int[] due = {4, 4, 5, 37, 37, 53, 55, 63, 63};
        for (int i = 0; i < bytes.length; i++) {
            Expect.plant(x, bytes[i]);
            Expect.same("seen(4, 2) behind " + bytes[i], x.seen(4, 2), due[i]);
            Expect.same("seen(3, 4) behind " + bytes[i], x.seen(3, 4), due[i]);
            Expect.same("seen(3, 5) behind " + bytes[i], x.seen(3, 5), 1);
        }
        Expect.same("seen(2, 3), no jump", x.seen(2, 3), 0);
        Expect.same("seen(2, 4), the other way", x.seen(2, 4), 0);
        Expect.same("seen pairs", x.count(6), 13);
        Expect.same("seen edges", x.count(5), 3);
    }

    /** With 16 entries there, what is lost is not seen: 8 and 15 rounds of the third loop are lost both. */
    private static void seesThePairsOfEntriesAlone() {
        EdgeCampaign x = new EdgeCampaign(1);
        x.emit(1, 2, -1);
        for (int loop = 0; loop < 3; loop++) {
            int at = 1 + 5 * loop;
            x.emit(1, 1, loop);
            x.emit(2, 0, 1);
            x.emit(3, 0, 2);
            x.emit(7, 0, at + 5);
            x.emit(8, 0, at + 2);
        }
        x.emit(0, 0, 0);
        int[] rounds = {1, 2, 3, 4, 8, 15, 16};
        Expect.plant(x, 0, 0, 0);
        for (int place = 0; place < 3; place++) {
            for (int often : rounds) {
                int[] bytes = new int[3];
                bytes[place] = often;
                Expect.plant(x, bytes);
            }
        }
        Expect.same("entries", x.count(3), 16);
        Expect.same("lost", x.count(2), 4);
        Expect.same("first loop", x.seen(5, 3), 63);
        Expect.same("second loop", x.seen(10, 8), 63);
        Expect.same("third loop", x.seen(15, 13), 7);
    }

    private static void isNothingForOtherPlaces() {
        EdgeCampaign x = Expect.campaign(1, Expect.row(8, 0, 0));
        x.plant();
        String before = Expect.all(x);
        Expect.same("seen(0, 0)", x.seen(0, 0), 32);
        int[] wrong = {Integer.MIN_VALUE, -24, -1, 24, 25, 576, Integer.MAX_VALUE};
        for (int place : wrong) {
            Expect.same("seen(" + place + ", 0)", x.seen(place, 0), 0);
            Expect.same("seen(0, " + place + ")", x.seen(0, place), 0);
            Expect.same("seen(1, " + place + ")", x.seen(1, place), 0);
            Expect.same("seen(" + place + ", 24)", x.seen(place, 24), 0);
        }
        Expect.same("seen(-1, 24) is not seen(0, 0)", x.seen(-1, 24), 0);
        Expect.same("seen(1, -24) is not seen(0, 0)", x.seen(1, -24), 0);
        Expect.same("seen(23, 23)", x.seen(23, 23), 0);
        Expect.sameText("nothing changed", Expect.all(x), before);
    }
}
