public final class Promise11FindingByteTest {
    public static void main(String[] args) {
        answersBothInputs();
        refusesWhatIsNotThere();
        keepsTheBytesOfAFinding();
        Expect.done();
    }

    /** Traps on two bytes or more. */
    private static EdgeCampaign twoBytes() {
        return Expect.campaign(1, Expect.row(1, 1, 1), Expect.row(2, 0, 1), Expect.row(7, 0, 4), Expect.row(12, 3, 0));
    }

    private static void answersBothInputs() {
        EdgeCampaign x = twoBytes();
        Expect.same("a trap", Expect.plant(x, 255, 0, 30, 40, 50, 60), 1);
        int[] input = {255, 0, 30, 40, 50, 60};
        for (int k = 0; k < 6; k++) {
            Expect.same("findingByte(0, false, " + k + ")", x.findingByte(0, false, k), input[k]);
        }
        // The halves are 255 0 30 and 40 50 60; of the first the parts are 255 and 0 30.
        Expect.same("findingByte(0, true, 0)", x.findingByte(0, true, 0), 0);
        Expect.same("findingByte(0, true, 1)", x.findingByte(0, true, 1), 30);
        Expect.same("findingByte(0, true, 2)", x.findingByte(0, true, 2), -1);
    }

    private static void refusesWhatIsNotThere() {
        EdgeCampaign x = twoBytes();
        int[] wrong = {Integer.MIN_VALUE, -1, 3, 6, 8, Integer.MAX_VALUE};
        for (int c : wrong) {
            Expect.same("findingByte(" + c + ", false, 0) of a new object", x.findingByte(c, false, 0), -1);
        }
        Expect.plant(x, 5, 6, 7);
        String before = Expect.all(x);
        for (int i : wrong) {
            Expect.same("findingByte(0, false, " + i + ")", x.findingByte(0, false, i), -1);
            Expect.same("findingByte(0, true, " + i + ")", x.findingByte(0, true, i), -1);
            Expect.same("findingByte(" + i + ", false, 0)", x.findingByte(i, false, 0), -1);
            Expect.same("findingByte(" + i + ", true, 0)", x.findingByte(i, true, 0), -1);
        }
        Expect.same("findingByte(1, true, 0)", x.findingByte(1, true, 0), -1);
        Expect.sameText("nothing changed", Expect.all(x), before);
        EdgeCampaign none = Expect.campaign(1, Expect.row(12, 0, 0));
        none.plant();
        Expect.same("of no bytes", none.findingByte(0, false, 0), -1);
        Expect.same("of no bytes, the shortest", none.findingByte(0, true, 0), -1);
    }

    private static void keepsTheBytesOfAFinding() {
        EdgeCampaign x = twoBytes();
        Expect.plant(x, 5, 6, 7);
        Expect.plant(x, 1, 2);
        x.feed(9);
        Expect.same("hits", x.finding(0, 6), 2);
        Expect.same("findingByte(0, false, 0)", x.findingByte(0, false, 0), 5);
        Expect.same("findingByte(0, false, 1)", x.findingByte(0, false, 1), 6);
        Expect.same("findingByte(0, false, 2)", x.findingByte(0, false, 2), 7);
        Expect.same("findingByte(0, true, 0)", x.findingByte(0, true, 0), 6);
        Expect.same("findingByte(0, true, 1)", x.findingByte(0, true, 1), 7);
    }
}
