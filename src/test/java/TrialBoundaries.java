/** 'Terms': TRIALS, up to the ones that draw. */
final class TrialBoundaries {
    private TrialBoundaries() {
    }

    static void hold() {
        Sentence.holds("TRIALS. One entry is TAKEN UP at a time (entry 0 at first, as soon as it is there), with an ENERGY:",
            TrialBoundaries::entry0IsTakenUpAtOnce);
        Sentence.holds("the lesser of 8 and the number of edges its run went along,", TrialBoundaries::energyIsAtMost8);
        Sentence.holds("twice that if it is favoured when it is taken up.", TrialBoundaries::energyStaysAsItWas);
        Sentence.holds("Trials of an entry with n bytes are numbered 0, 1, ..: in each one the entry's input is changed so, "
            + "and executed:", TrialBoundaries::eachBeginsWithTheEntrysInput);
        Sentence.holds("0 .. 8 n - 1: bit t & 7 (0 the lowest) of the byte t >> 3 is turned, t being the number.",
            TrialBoundaries::turnsEachBit);
        Sentence.holds("then 4 n: with t counted from 0 here, to the byte t >> 2 is added 1, -1, 16 or -16, "
            + "as t & 3 is 0, 1, 2, 3 (wrapping within 0 .. 255).", TrialBoundaries::addsAndWraps);
        Sentence.holds("then 4 n, counted likewise: the byte t >> 2 becomes 0, 127, 128 or 255.",
            TrialBoundaries::putsFourValues);
    }

    private static int[] row(int op, int a, int b) {
        return Expect.row(op, a, b);
    }

    private static void current(String what, EdgeCampaign x, int... due) {
        for (int which = 0; which < due.length; which++) {
            Expect.same(what + ": current(" + which + ")", x.current(which), due[which]);
        }
    }

    private static void entry0IsTakenUpAtOnce() {
        EdgeCampaign x = Expect.campaign(1, row(2, 0, 1), row(7, 0, 9), row(0, 0, 0));
        current("new", x, -1, -1, -1);
        x.plant();
        // Without bytes the jump leads out of the program, along no edge.
        Expect.same("executions", x.count(0), 1);
        current("no entry", x, -1, -1, -1);
        Expect.same("no trials", x.fuzz(1), 0);
        Expect.plant(x, 5, 6);
        current("entry 0 came", x, 0, 0, 2);
        EdgeCampaign more = new Probe(1, Probe.BY_LENGTH, new int[3], new int[2], new int[1]).behind(0);
        current("others came behind it", more, 0, 0, 6);
        Expect.same("it is not favoured any more", more.entry(0, 4), 0);
    }

    private static void energyIsAtMost8() {
        for (int edges = 1; edges <= 20; edges++) {
            EdgeCampaign x = new EdgeCampaign(1);
            for (int place = 0; place < edges; place++) {
                x.emit(8, 0, place + 1);
            }
            x.emit(0, 0, 0);
            x.plant();
            Expect.same("edges", x.entry(0, 2), edges);
            current(edges + " edges", x, 0, 0, 2 * Math.min(8, edges));
        }
        // 64 times along one edge is one edge.
        EdgeCampaign often = Expect.campaign(1, row(8, 0, 0));
        often.plant();
        current("one edge, often", often, 0, 0, 2);
        // Entry 1 is not favoured: 1-2, 1-5 and 4-0 have entry 2, with a byte, as their top. It has 3 edges.
        EdgeCampaign x = unfavoured(new int[0], new int[2], new int[1]);
        current("not favoured", x, 1, 0, 3);
    }

    /** Entry 0 has no bytes and is over, and no other entry came in its trials. */
    private static EdgeCampaign unfavoured(int[]... planted) {
        for (int seed = 1; seed < 1000; seed++) {
            EdgeCampaign x = new Probe(seed, Probe.BY_LENGTH, planted).behind(3);
            if (x.count(3) == planted.length) {
                return x;
            }
        }
        Expect.same("a seed was found", false, true);
        return new EdgeCampaign(1);
    }

    /**
     * Entry 0 has no bytes and stops at 2. Entry 1 (byte 0) goes along 0-1 and 5-7; entry 2 (byte 8) does so too, and
     * along 5-6, which comes before 5-7: entry 1 is not favoured. 255 hangs, along 5-6 and never along 5-7, and costs
     * less than entry 2: now entry 1 is the top of 5-7, which no favoured one went along.
     */
    private static void energyStaysAsItWas() {
        EdgeCampaign x = null;
        for (int seed = 1; seed < 1000 && (x == null || x.count(3) != 3); seed++) {
            x = Expect.campaign(seed, row(8, 0, 1), row(2, 0, 1), row(12, 0, -1), row(1, 2, -1), row(3, 0, 2),
                row(7, 0, 7), row(8, 0, 4), row(0, 0, 0));
            x.plant();
            Expect.plant(x, 0);
            Expect.plant(x, 8, 0, 0, 0, 0, 0);
            x.fuzz(3);
        }
        Expect.same("entry 1 is not favoured", x.entry(1, 4), 0);
        current("entry 1 is taken up", x, 1, 0, 2);
        Expect.plant(x, 255);
        Expect.same("entry 1 is favoured", x.entry(1, 4), 1);
        Expect.same("entry 2 is not any more", x.entry(2, 4), 0);
        current("its energy stays", x, 1, 0, 2);
        x.fuzz(20);
        current("16 trials, two that drew and one that joined, and the first of entry 2", x, 2, 1);
        // The other way: entry 0 is favoured when it is taken up, and then not any more.
        EdgeCampaign y = new Probe(1, Probe.BY_LENGTH, new int[2]).behind(0);
        current("favoured, 3 edges", y, 0, 0, 6);
        Expect.plant(y, 1);
        Expect.same("entry 0 is not favoured any more", y.entry(0, 4), 0);
        current("its energy stays", y, 0, 0, 6);
    }

    private static void eachBeginsWithTheEntrysInput() {
        int[] input = {5, 250};
        Probe probe = new Probe(9, Probe.ONE_EDGE, input);
        probe.executes("trial 0", 0, 4, 250);
        probe.executes("trial 1, without what trial 0 did", 1, 7, 250);
        probe.executes("trial 8", 8, 5, 251);
        EdgeCampaign x = probe.behind(0);
        for (int t = 0; t < 34; t++) {
            Expect.same("the number", x.current(1), t);
            Expect.same("executions", x.count(0), 1 + t);
            x.fuzz(1);
            Expect.same("byte 0 of the entry", x.entryByte(0, 0), 5);
            Expect.same("byte 1 of the entry", x.entryByte(0, 1), 250);
            Expect.same("bytes of the entry", x.entry(0, 0), 2);
        }
        // Without bytes, trial 0 draws at once.
        EdgeCampaign none = new Probe(9, Probe.ONE_EDGE, new int[0]).behind(1);
        Expect.same("trial 0 drew", none.state() != 9, true);
        EdgeCampaign one = new Probe(9, Probe.ONE_EDGE, new int[1]).behind(16);
        Expect.same("trials 0 to 15 of a byte drew nothing", one.state(), 9);
        one.fuzz(1);
        Expect.same("trial 16 drew", one.state() != 9, true);
    }

    private static int[] with(int[] input, int k, int value) {
        int[] changed = input.clone();
        changed[k] = value;
        return changed;
    }

    private static final int[] SIX = {0, 255, 128, 127, 16, 239};

    private static void turnsEachBit() {
        for (int t = 0; t < 48; t++) {
            int k = t / 8;
            int bit = t % 8;
            int turned = SIX[k] / (1 << bit) % 2 == 0 ? SIX[k] + (1 << bit) : SIX[k] - (1 << bit);
            new Probe(9, Probe.ONE_EDGE, SIX).executes("trial " + t, t, with(SIX, k, turned));
        }
        Probe one = new Probe(9, Probe.ONE_EDGE, new int[] {255});
        one.executes("the lowest bit", 0, 254);
        one.executes("the highest bit", 7, 127);
        Probe zero = new Probe(9, Probe.ONE_EDGE, new int[] {0});
        zero.executes("the lowest bit", 0, 1);
        zero.executes("the highest bit", 7, 128);
    }

    private static void addsAndWraps() {
        int[][] due = {{1, 255, 16, 240}, {0, 254, 15, 239}, {129, 127, 144, 112}, {128, 126, 143, 111},
            {17, 15, 32, 0}, {240, 238, 255, 223}};
        for (int t = 0; t < 24; t++) {
            new Probe(9, Probe.ONE_EDGE, SIX).executes("trial " + (48 + t), 48 + t, with(SIX, t / 4, due[t / 4][t % 4]));
        }
        int[][] bytes = {{255, 0, 254, 15, 239}, {0, 1, 255, 16, 240}, {240, 241, 239, 0, 224}, {15, 16, 14, 31, 255}};
        for (int[] b : bytes) {
            for (int t = 0; t < 4; t++) {
                new Probe(9, Probe.ONE_EDGE, new int[] {b[0]}).executes(b[0] + ", trial " + (8 + t), 8 + t, b[1 + t]);
            }
        }
    }

    private static void putsFourValues() {
        int[] due = {0, 127, 128, 255};
        for (int t = 0; t < 24; t++) {
            new Probe(9, Probe.ONE_EDGE, SIX).executes("trial " + (72 + t), 72 + t, with(SIX, t / 4, due[t % 4]));
        }
        for (int t = 0; t < 4; t++) {
            new Probe(9, Probe.ONE_EDGE, new int[] {due[t]}).executes("trial " + (12 + t), 12 + t, due[t]);
        }
        EdgeCampaign six = new Probe(9, Probe.ONE_EDGE, SIX).behind(96);
        Expect.same("the 96 trials of six bytes drew nothing", six.state(), 9);
        Expect.same("the next one draws", six.current(1), 96);
        six.fuzz(1);
        Expect.same("it drew", six.state() != 9, true);
    }
}
