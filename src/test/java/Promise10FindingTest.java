public final class Promise10FindingTest {
    public static void main(String[] args) {
        answersTheSign();
        tellsSignsApart();
        refusesWhatIsNotThere();
        countsHits();
        countsHitsOfTrials();
        keepsEight();
        shortensToParts();
        shortensToRests();
        shortensByGrowingAndShrinkingParts();
        shortensToNothing();
        shortensWithTheSameSignAlone();
        Expect.done();
    }

    private static int[] row(int op, int a, int b) {
        return Expect.row(op, a, b);
    }

    private static void finding(EdgeCampaign x, int c, int... due) {
        for (int which = 0; which < due.length; which++) {
            Expect.same("finding(" + c + ", " + which + ")", x.finding(c, which), due[which]);
        }
    }

    private static void answersTheSign() {
        EdgeCampaign x = Expect.campaign(1, row(9, 0, 2), row(0, 0, 0), row(9, 0, 4), row(0, 0, 0), row(12, 0, 0));
        Expect.plant(x, 8);
        finding(x, 0, 1, 4, 2, 3, 1, 0, 1, 1, 0);
        EdgeCampaign full = Expect.campaign(1, row(9, 0, 2), row(0, 0, 0), row(9, 0, 4), row(0, 0, 0),
            row(9, 0, 6), row(0, 0, 0), row(9, 0, 0));
        Expect.same("a full stack", full.plant(), 4);
        finding(full, 0, 4, 6, 3, 5, 3, 1, 1, 0, 0);
        EdgeCampaign flat = Expect.campaign(1, row(1, 0, 4), row(13, 0, 0));
        Expect.same("a wrong word", Expect.plant(flat, 1, 2, 3, 4, 5, 6), 3);
        finding(flat, 0, 3, 1, 0, 0, 0, 0, 1, 6, 0);
        EdgeCampaign gone = Expect.campaign(1, row(9, 0, 2), row(11, 0, 0), row(10, 0, 0));
        Expect.same("behind a return", gone.plant(), 2);
        finding(gone, 0, 2, 1, 0, 0, 0, 0, 1, 0, 0);
    }

    /** Byte 0 calls place 6 from 4, others from 2; then 6 traps, on two bytes with 2, else with 1 at 8. */
    private static void tellsSignsApart() {
        EdgeCampaign x = Expect.campaign(1, row(2, 0, 1), row(6, 0, 4), row(9, 0, 6), row(0, 0, 0),
            row(9, 0, 6), row(0, 0, 0), row(15, 2, 0), row(12, 2, 2), row(12, 3, 0));
        Expect.plant(x, 1);
        Expect.plant(x, 0);
        Expect.plant(x, 1, 1);
        Expect.plant(x, 0, 1);
        Expect.plant(x, 9);
        Expect.same("findings", x.count(4), 4);
        finding(x, 0, 1, 8, 1, 3, 0, 0, 2, 1);
        finding(x, 1, 1, 8, 1, 5, 0, 0, 1, 1);
        finding(x, 2, 1, 7, 1, 3, 0, 0, 1, 2);
        finding(x, 3, 1, 7, 1, 5, 0, 0, 1, 2);
    }

    private static void refusesWhatIsNotThere() {
        EdgeCampaign x = Expect.campaign(1, row(12, 0, 0));
        x.plant();
        String before = Expect.all(x);
        int[] wrong = {Integer.MIN_VALUE, -1, 9, 10, Integer.MAX_VALUE};
        for (int which : wrong) {
            Expect.same("finding(0, " + which + ")", x.finding(0, which), -1);
        }
        int[] none = {Integer.MIN_VALUE, -1, 1, 7, 8, 9, Integer.MAX_VALUE};
        for (int c : none) {
            for (int which = -1; which <= 9; which++) {
                Expect.same("finding(" + c + ", " + which + ")", x.finding(c, which), -1);
            }
        }
        Expect.sameText("nothing changed", Expect.all(x), before);
    }

    private static void countsHits() {
        EdgeCampaign x = Expect.campaign(1, row(2, 0, 1), row(12, 0, 7), row(12, 0, 8));
        Expect.plant(x, 8, 1);
        Expect.plant(x, 7);
        Expect.plant(x, 8);
        Expect.plant(x, 9);
        Expect.plant(x, 8, 2, 3);
        finding(x, 0, 1, 2, 0, 0, 0, 0, 3, 2, 1);
        finding(x, 1, 1, 1, 0, 0, 0, 0, 1, 1, 1);
        Expect.same("the first input stays", x.findingByte(0, false, 1), 1);
    }

    private static void countsHitsOfTrials() {
        EdgeCampaign x = Expect.campaign(1, row(8, 0, 1), row(12, 0, 0));
        Expect.plant(x, 1, 2, 3);
        x.fuzz(20);
        x.fuzz(5);
        Expect.same("hits", x.finding(0, 6), 26);
        Expect.same("findings", x.count(4), 1);
    }

    private static void keepsEight() {
        EdgeCampaign x = new EdgeCampaign(1);
        x.emit(2, 0, 1);
        for (int value = 1; value <= 9; value++) {
            x.emit(12, 0, value);
        }
        for (int value = 1; value <= 9; value++) {
            Expect.same("a trap", Expect.plant(x, value), 1);
        }
        for (int c = 0; c < 8; c++) {
            finding(x, c, 1, c + 1, 0, 0, 0, 0, 1, 1, 1);
        }
        Expect.same("a ninth", x.finding(8, 0), -1);
        Expect.same("lost", x.count(2), 1);
    }

    /** Traps at 2 when a byte is 7. */
    private static EdgeCampaign seven() {
        return Expect.campaign(1, row(2, 0, 3), row(7, 0, 6), row(12, 0, 7), row(1, 1, 1), row(3, 3, 1),
            row(8, 0, 0), row(0, 0, 0));
    }

    private static void shortest(EdgeCampaign x, int c, int... due) {
        Expect.same("finding(" + c + ", 8)", x.finding(c, 8), due.length);
        for (int k = 0; k < due.length; k++) {
            Expect.same("findingByte(" + c + ", true, " + k + ")", x.findingByte(c, true, k), due[k]);
        }
    }

    private static void shortensToParts() {
        int[][] inputs = {{7}, {7, 1}, {1, 7}, {1, 2, 7, 3, 4, 5}, {1, 2, 3, 4, 5, 7}, {7, 7, 7, 7, 7, 7}};
        for (int[] input : inputs) {
            EdgeCampaign x = seven();
            Expect.same("a trap", Expect.plant(x, input), 1);
            shortest(x, 0, 7);
            Expect.same("bytes of the input", x.finding(0, 7), input.length);
        }
        // Traps when a byte is 7 or 9, all at one place: of two parts that trap, the first is taken.
        int[][] rows = {
            row(2, 0, 3), row(7, 0, 11), row(1, 1, -7), row(3, 1, 0), row(1, 2, -9), row(3, 2, 0),
            row(5, 1, 2), row(12, 1, 0), row(1, 1, 1), row(3, 3, 1), row(8, 0, 0), row(0, 0, 0)
        };
        EdgeCampaign nine = Expect.campaign(1, rows);
        Expect.plant(nine, 9, 1, 1, 7);
        shortest(nine, 0, 9);
        EdgeCampaign second = Expect.campaign(1, rows);
        Expect.plant(second, 1, 1, 7, 9);
        shortest(second, 0, 7);
    }

    /** Traps when just two bytes are 7. */
    private static EdgeCampaign twoSevens() {
        return Expect.campaign(1, row(2, 0, 3), row(7, 0, 8), row(1, 1, -7), row(3, 1, 0), row(6, 1, 10),
            row(1, 1, 1), row(3, 3, 1), row(8, 0, 0), row(12, 2, 2), row(0, 0, 0), row(1, 1, 1),
            row(3, 2, 1), row(8, 0, 5));
    }

    private static void shortensToRests() {
        int[][] inputs = {{7, 0, 0, 0, 7}, {0, 7, 0, 7, 0}, {7, 7}, {0, 7, 7}, {7, 0, 7}, {7, 1, 2, 7}, {1, 7, 7, 2}};
        for (int[] input : inputs) {
            EdgeCampaign x = twoSevens();
            Expect.same("a trap", Expect.plant(x, input), 1);
            Expect.same("its place", x.finding(0, 1), 8);
            shortest(x, 0, 7, 7);
        }
    }

    /** Traps at 20 with as many bytes as many says or more, and when first and second come first, but not with 3. */
    private static EdgeCampaign choosy(int many, int first, int second) {
        return Expect.campaign(1, row(15, 0, 0), row(1, 1, -many), row(3, 1, 0), row(7, 1, 5), row(8, 0, 19),
            row(1, 1, -3), row(3, 1, 0), row(6, 1, 18), row(2, 2, 3), row(1, 1, -first), row(3, 1, 2), row(6, 1, 13),
            row(0, 0, 0), row(1, 3, 1), row(2, 2, 3), row(1, 1, -second), row(3, 1, 2), row(6, 1, 19), row(0, 0, 0),
            row(1, 1, 0), row(12, 1, 0));
    }

    private static void shortensByGrowingAndShrinkingParts() {
        // No half traps, nor one of the four parts 1, 2 3, 4, 5 6, but 2 .. 6, the rest without the first of them.
        // Then there are three parts, and the second of them, 3 4, traps. With four parts it would be 3 4 5 6.
        EdgeCampaign x = choosy(5, 3, 4);
        Expect.same("a trap", Expect.plant(x, 1, 2, 3, 4, 5, 6), 1);
        shortest(x, 0, 3, 4);
        Expect.same("3 4 5 6 traps too", Expect.plant(x, 3, 4, 5, 6), 1);
        Expect.same("hits", x.finding(0, 6), 2);
        // Nothing traps with two and four parts, and with six 1 3 4 5 6 does, the rest without the second of them.
        // Then there are five parts, and 1 3 5 6 traps; of its four parts, none can go. With two it would be 1 3.
        EdgeCampaign y = choosy(6, 1, 3);
        Expect.same("a trap", Expect.plant(y, 1, 2, 3, 4, 5, 6), 1);
        shortest(y, 0, 1, 3, 5, 6);
        Expect.same("1 3 traps too", Expect.plant(y, 1, 3), 1);
        Expect.same("hits", y.finding(0, 6), 2);
    }

    private static void shortensToNothing() {
        for (int n = 0; n <= 6; n++) {
            EdgeCampaign x = Expect.campaign(1, row(12, 0, 0));
            Expect.plant(x, new int[n]);
            Expect.same("bytes", x.finding(0, 7), n);
            shortest(x, 0);
            Expect.same("executions", x.count(0), 1);
        }
    }

    /** Traps at 1 with two bytes, at 2 with four: 4 can't become 2, nor 3, 1 or 0. */
    private static void shortensWithTheSameSignAlone() {
        EdgeCampaign x = Expect.campaign(1, row(15, 0, 0), row(12, 0, 2), row(12, 0, 4));
        Expect.plant(x, 5, 6, 7, 8);
        shortest(x, 0, 5, 6, 7, 8);
        // The same place and trap, but called from another place with less than four bytes.
        EdgeCampaign y = Expect.campaign(1, row(15, 0, 0), row(1, 1, -4), row(3, 0, 1), row(7, 0, 6),
            row(9, 0, 7), row(0, 0, 0), row(9, 0, 7), row(12, 3, 0));
        Expect.plant(y, 1, 2, 3, 4, 5, 6);
        Expect.same("called from 4", y.finding(0, 3), 5);
        Expect.same("shortest", y.finding(0, 8), 4);
        // 6: halves of 3 do not trap so; then parts 1 2 1 2 of which the first is taken out, twice.
        shortest(y, 0, 3, 4, 5, 6);
        Expect.same("findings", y.count(4), 1);
    }
}
