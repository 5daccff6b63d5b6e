/** 'Terms': FAVOURED. */
final class FavouredBoundaries {
    private FavouredBoundaries() {
    }

    static void hold() {
        Sentence.holds("FAVOURED entries: the COST of an entry is its steps times (1 + its number of bytes).",
            FavouredBoundaries::noBytesCostTheSteps);
        Sentence.holds("The TOP of a seen edge is, of the entries whose runs went along it, that with the least cost, "
            + "of several the least number.", FavouredBoundaries::ofSeveralTheLeastNumber);
        Sentence.holds("Going through the seen edges in the order of their numbers 24 * from + to: when none of the entries "
            + "that are favoured so far went along the edge, its top is favoured.", FavouredBoundaries::inTheOrderOfEdges);
    }

    private static int[] row(int op, int a, int b) {
        return Expect.row(op, a, b);
    }

    private static void favoured(String what, EdgeCampaign x, int... due) {
        for (int e = 0; e < due.length; e++) {
            Expect.same(what + ": entry(" + e + ", 4)", x.entry(e, 4), due[e]);
        }
        Expect.same(what + ": entries", x.count(3), due.length);
    }

    private static void cost(String what, EdgeCampaign x, int e, int due) {
        Expect.same(what, x.entry(e, 1) * (1 + x.entry(e, 0)), due);
    }

    /**
     * As many rounds as the first byte says, or 16 without bytes, all along the same edges: so one entry alone is
     * favoured. The steps are 12, and 3 a round.
     */
    private static void noBytesCostTheSteps() {
        EdgeCampaign x = Expect.campaign(1, row(15, 1, 0), row(1, 2, 1), row(4, 2, 1), row(1, 1, 17), row(5, 2, 1),
            row(1, 1, 0), row(2, 0, 1), row(3, 0, 2), row(1, 2, -1), row(3, 0, 2), row(7, 0, 12), row(8, 0, 9), row(0, 0, 0));
        x.plant();
        cost("no bytes cost their 60 steps", x, 0, 60);
        favoured("60", x, 1);
        Expect.plant(x, 8);
        cost("36 steps and a byte", x, 1, 72);
        favoured("60 and 72", x, 1, 0);
        Expect.plant(x, 4);
        cost("24 steps and a byte", x, 2, 48);
        favoured("60, 72 and 48", x, 0, 0, 1);
        Expect.plant(x, 88, 0, 0, 0, 0, 0);
        cost("21 steps and six bytes", x, 3, 147);
        favoured("60, 72, 48 and 147", x, 0, 0, 1, 0);
    }

    /** Goes along 3-4 and 4-2 as often as the first byte says, then 3-5. Steps: 5, and 3 more each time. */
    private static EdgeCampaign looping() {
        return Expect.campaign(1, row(2, 0, 1), row(1, 2, -1), row(3, 0, 2), row(7, 0, 5), row(8, 0, 2), row(0, 0, 0));
    }

    private static void sameCost(int[] first, int[] second) {
        EdgeCampaign x = looping();
        Expect.plant(x, 9);
        cost("32 steps and a byte", x, 0, 64);
        Expect.plant(x, first);
        favoured("64 and 56", x, 0, 1);
        Expect.plant(x, second);
        cost("the first of 56", x, 1, 56);
        cost("the second of 56", x, 2, 56);
        favoured("64, 56 and 56", x, 0, 1, 0);
    }

    private static void ofSeveralTheLeastNumber() {
        int[] eightSteps = {1, 0, 0, 0, 0, 0};
        int[] fourteenSteps = {3, 0, 0};
        sameCost(eightSteps, fourteenSteps);
        sameCost(fourteenSteps, eightSteps);
        EdgeCampaign less = looping();
        Expect.plant(less, 3, 0, 0);
        Expect.plant(less, 1, 0, 0, 0, 0);
        cost("8 steps and five bytes", less, 1, 48);
        favoured("56 and 48", less, 0, 1);
        // The cheapest of all did not go along 3-4, and is the top of 3-5 alone.
        EdgeCampaign other = looping();
        other.plant();
        cost("5 steps", other, 0, 5);
        Expect.plant(other, 1);
        cost("8 steps and a byte", other, 1, 16);
        favoured("5 and 16", other, 0, 1);
    }

    private static void inTheOrderOfEdges() {
        // 3-4 has the number 76, 3-5 has 77: entry 1 is favoured for 3-4 and went along 3-5 too.
        EdgeCampaign first = looping();
        first.plant();
        favoured("along 3-5", first, 1);
        Expect.plant(first, 2);
        favoured("along 3-4, 3-5 and 4-2", first, 0, 1);
        // 0-1 has the number 1 and entry 0 as its top, 3-4 has entry 1 alone. From behind, entry 1 would do for both.
        EdgeCampaign both = Expect.campaign(1, row(8, 0, 1), row(2, 0, 1), row(12, 0, -1), row(8, 0, 4), row(0, 0, 0));
        both.plant();
        favoured("along 0-1", both, 1);
        Expect.plant(both, 5);
        favoured("along 0-1 and 3-4", both, 1, 1);
        // 1-9 has the number 33, 2-3 has 51, 10-2 has 242. In the order of their ends, 10-2 would come first.
        EdgeCampaign ends = Expect.campaign(1, row(2, 0, 1), row(8, 0, 9), row(8, 0, 3), row(0, 0, 0), row(0, 0, 0),
            row(0, 0, 0), row(0, 0, 0), row(0, 0, 0), row(0, 0, 0), row(12, 0, -1), row(8, 0, 2));
        ends.plant();
        Expect.plant(ends, 5);
        Expect.same("seen edges", ends.count(5), 3);
        favoured("along 1-9, and along 1-9, 10-2 and 2-3", ends, 1, 1);
        // 5-23 has the number 143 and entry 0 as its top, at a cost of 14; 6-0 has 144 and entry 1 alone, which costs
        // 15 and does for both. Entry 0 has a byte and ends at 23, entry 1 goes on from there to 6 and once more to 23.
        int[][] rows = new int[24][];
        java.util.Arrays.fill(rows, row(0, 0, 0));
        rows[0] = row(15, 0, 0);
        rows[1] = row(1, 1, -1);
        rows[2] = row(3, 0, 1);
        rows[3] = row(3, 0, 3);
        rows[4] = row(1, 3, 9);
        rows[5] = row(8, 0, 23);
        rows[6] = row(8, 0, 0);
        rows[23] = row(7, 0, 6);
        EdgeCampaign far = Expect.campaign(1, rows);
        Expect.plant(far, 1);
        far.plant();
        Expect.same("seen(5, 23)", far.seen(5, 23), 3);
        Expect.same("seen(6, 0)", far.seen(6, 0), 1);
        cost("7 steps and a byte", far, 0, 14);
        cost("15 steps", far, 1, 15);
        favoured("along 5-23, and along 5-23, 6-0 and 23-6", far, 1, 1);
    }
}
