public final class Promise08EntryByteTest {
    public static void main(String[] args) {
        answersBytes();
        refusesWhatIsNotThere();
        keepsTheBytesOfAnEntry();
        Expect.done();
    }

    /** One edge for each number of bytes up to 3, by how often 3-1 is gone along. */
    private static EdgeCampaign byLength() {
        return Expect.campaign(1, Expect.row(2, 0, 3), Expect.row(7, 0, 5), Expect.row(1, 1, 1),
            Expect.row(3, 3, 1), Expect.row(8, 0, 0), Expect.row(0, 0, 0));
    }

    private static void answersBytes() {
        EdgeCampaign x = byLength();
        Expect.plant(x, 0, 255, 17, 128, 1, 99);
        Expect.plant(x, 42);
        int[] due = {0, 255, 17, 128, 1, 99};
        for (int k = 0; k < 6; k++) {
            Expect.same("entryByte(0, " + k + ")", x.entryByte(0, k), due[k]);
        }
        Expect.same("entryByte(1, 0)", x.entryByte(1, 0), 42);
        Expect.same("entryByte(1, 1)", x.entryByte(1, 1), -1);
    }

    private static void refusesWhatIsNotThere() {
        int[] wrong = {Integer.MIN_VALUE, -1, 2, 3, 6, 16, Integer.MAX_VALUE};
        EdgeCampaign x = byLength();
        for (int e = -1; e <= 1; e++) {
            Expect.same("entryByte(" + e + ", 0) of a new object", x.entryByte(e, 0), -1);
        }
        Expect.plant(x, 5, 6);
        String before = Expect.all(x);
        for (int k : wrong) {
            Expect.same("entryByte(0, " + k + ")", x.entryByte(0, k), -1);
        }
        for (int e : wrong) {
            Expect.same("entryByte(" + e + ", 0)", x.entryByte(e, 0), -1);
        }
        Expect.same("entryByte(1, 0)", x.entryByte(1, 0), -1);
        Expect.sameText("nothing changed", Expect.all(x), before);
        EdgeCampaign none = byLength();
        none.plant();
        Expect.same("entry without bytes", none.entry(0, 0), 0);
        Expect.same("its byte 0", none.entryByte(0, 0), -1);
    }

    private static void keepsTheBytesOfAnEntry() {
        EdgeCampaign x = byLength();
        Expect.plant(x, 5, 6);
        x.feed(9);
        x.fuzz(20);
        x.fuzz(20);
        Expect.plant(x, 200, 201);
        Expect.same("entryByte(0, 0)", x.entryByte(0, 0), 5);
        Expect.same("entryByte(0, 1)", x.entryByte(0, 1), 6);
        Expect.same("entryByte(0, 2)", x.entryByte(0, 2), -1);
    }
}
