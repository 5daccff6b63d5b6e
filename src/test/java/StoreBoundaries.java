/** 'Terms': THE STORE, EXECUTE and LOST. */
final class StoreBoundaries {
    private StoreBoundaries() {
    }

    static void hold() {
        Sentence.holds("THE STORE keeps at most 16 ENTRIES, numbered 0, 1, .. in the order in which they came:",
            StoreBoundaries::keepsSixteenEntries);
        Sentence.holds("an input, the STEPS that its run did, and the edges that its run went along.",
            StoreBoundaries::keepsWhatTheRunDid);
        Sentence.holds("The SEEN pairs are those of the runs of the entries' inputs;", StoreBoundaries::seesTheEntriesAlone);
        Sentence.holds("an edge is seen when one of its pairs is.", StoreBoundaries::seesAnEdgeOnce);
        Sentence.holds("To EXECUTE an input: it is run, and counted as an execution;", StoreBoundaries::countsEveryExecution);
        Sentence.holds("when it hangs, it is counted as a hang.", StoreBoundaries::countsHangs);
        Sentence.holds("When its run has a pair that is not seen: it becomes an entry, or, if 16 are there, "
            + "is counted as LOST.", StoreBoundaries::losesASeventeenth);
        Sentence.holds("When it traps: if a FINDING has its sign, that one's HITS grow by 1;", StoreBoundaries::countsHits);
        Sentence.holds("else a finding with this sign is made, with 1 hit, this input, and the SHORTEST made from it (below);",
            StoreBoundaries::makesAFinding);
        Sentence.holds("or, if 8 findings are there, it is counted as LOST.", StoreBoundaries::losesANinthFinding);
        Sentence.holds("(So an execution may be counted as LOST twice.)", StoreBoundaries::losesTwice);
    }

    private static int[] row(int op, int a, int b) {
        return Expect.row(op, a, b);
    }

    /**
     * A loop along 3-4 and 4-2 as often as the first byte says, then calls of 21 from 7, 8, .. 20, which trap in the
     * call whose number the second byte says. The entries: loops of each bucket, and a call more each.
     */
    private static EdgeCampaign loopAndCalls() {
        int[][] rows = new int[24][];
        rows[0] = row(2, 0, 1);
        rows[1] = row(1, 2, -1);
        rows[2] = row(3, 0, 2);
        rows[3] = row(7, 0, 5);
        rows[4] = row(8, 0, 2);
        rows[5] = row(1, 1, 1);
        rows[6] = row(2, 0, 1);
        for (int place = 7; place <= 20; place++) {
            rows[place] = row(9, 0, 21);
        }
        rows[21] = row(3, 0, 2);
        rows[22] = row(12, 0, 0);
        rows[23] = row(10, 0, 0);
        return Expect.campaign(1, rows);
    }

    private static void counts(String what, EdgeCampaign x, int lost, int entries, int findings) {
        Expect.same(what + ": lost", x.count(2), lost);
        Expect.same(what + ": entries", x.count(3), entries);
        Expect.same(what + ": findings", x.count(4), findings);
    }

    private static final int[] LOOPS = {0, 1, 2, 3, 4, 8, 16};

    /** 15 entries by loops of each bucket and calls 2 to 9, and 8 findings: call 9 was lost among the findings. */
    private static EdgeCampaign fifteenEntries() {
        EdgeCampaign x = loopAndCalls();
        for (int often : LOOPS) {
            Expect.plant(x, often, 1);
        }
        for (int call = 2; call <= 9; call++) {
            Expect.plant(x, 0, call);
        }
        counts("fifteen", x, 1, 15, 8);
        return x;
    }

    private static void keepsSixteenEntries() {
        EdgeCampaign x = fifteenEntries();
        Expect.same("there is no entry 15", x.entry(15, 0), -1);
        Expect.plant(x, 0, 10);
        Expect.same("sixteen", x.count(3), 16);
        Expect.same("entry 15", x.entry(15, 0), 2);
        Expect.plant(x, 0, 11);
        Expect.same("still sixteen", x.count(3), 16);
        Expect.same("there is no entry 16", x.entry(16, 0), -1);
        for (int e = 0; e < 16; e++) {
            Expect.same("loops of entry " + e, x.entryByte(e, 0), e < 7 ? LOOPS[e] : 0);
            Expect.same("calls of entry " + e, x.entryByte(e, 1), e < 7 ? 1 : e - 5);
        }
    }

    private static void keepsWhatTheRunDid() {
        EdgeCampaign x = loopAndCalls();
        x.plant();
        // Without bytes no call traps: 6 steps, and 4 for each of 14 calls; the run hangs at 23, where it would end.
        Expect.same("bytes of none", x.entry(0, 0), 0);
        Expect.same("steps of none", x.entry(0, 1), 64);
        Expect.same("edges of none", x.entry(0, 2), 1 + 14 + 14);
        Expect.plant(x, 2, 1, 77, 78, 79, 80);
        Expect.same("bytes of six", x.entry(1, 0), 6);
        Expect.same("the last of six", x.entryByte(1, 5), 80);
        // 4, and 3 a round, then 5, 6, 7, 21 and 22.
        Expect.same("steps of six", x.entry(1, 1), 4 + 6 + 5);
        Expect.same("edges of six", x.entry(1, 2), 3 + 1);
        Expect.plant(x, 19, 14, 5);
        Expect.same("a hang has 64 steps", x.entry(2, 1), 64);
        Expect.same("entry 0 stays", x.entry(0, 2), 29);
        Expect.same("entry 1 stays", x.entryByte(1, 0), 2);
    }

    private static void seesTheEntriesAlone() {
        EdgeCampaign x = fifteenEntries();
        Expect.plant(x, 0, 10);
        int edges = x.count(5);
        int pairs = x.count(6);
        Expect.plant(x, 0, 11);
        Expect.plant(x, 0, 12);
        Expect.same("the call of entry 15", x.seen(16, 21), 1);
        Expect.same("a call that was lost", x.seen(17, 21), 0);
        Expect.same("seen edges", x.count(5), edges);
        Expect.same("seen pairs", x.count(6), pairs);
        // Hangs on less than six bytes, along an edge that only the runs of the shortening go along.
        EdgeCampaign y = Expect.campaign(1, row(15, 0, 0), row(1, 1, -6), row(3, 0, 1), row(6, 0, 5), row(8, 0, 4),
            row(12, 0, 0));
        Expect.plant(y, 1, 2, 3, 4, 5, 6);
        Expect.same("an edge of the shortening", y.seen(4, 4), 0);
        Expect.same("seen pairs", y.count(6), 1);
    }

    private static void seesAnEdgeOnce() {
        EdgeCampaign x = Expect.campaign(1, row(2, 0, 1), row(1, 2, -1), row(3, 0, 2), row(7, 0, 5), row(8, 0, 2),
            row(0, 0, 0));
        int[] edges = {1, 3, 3, 3, 3, 3, 3};
        int[] pairs = {1, 3, 5, 7, 9, 11, 13};
        for (int i = 0; i < LOOPS.length; i++) {
            Expect.plant(x, LOOPS[i]);
            Expect.same("seen edges behind " + LOOPS[i], x.count(5), edges[i]);
            Expect.same("seen pairs behind " + LOOPS[i], x.count(6), pairs[i]);
        }
    }

    private static void countsEveryExecution() {
        EdgeCampaign none = new EdgeCampaign(1);
        none.plant();
        Expect.same("of an empty program", none.count(0), 1);
        EdgeCampaign x = fifteenEntries();
        Expect.same("fifteen", x.count(0), 15);
        Expect.plant(x, 0, 10);
        Expect.plant(x, 0, 11);
        Expect.same("the last entry, and one lost twice", x.count(0), 17);
        Expect.plant(x, 0, 1);
        Expect.same("without news", x.count(0), 18);
        Expect.plant(x, 255);
        Expect.same("a hang", x.count(0), 19);
        x.fuzz(20);
        Expect.same("twenty trials", x.count(0), 39);
    }

    private static void countsHangs() {
        EdgeCampaign x = fifteenEntries();
        Expect.same("none", x.count(1), 0);
        Expect.same("a hang without news", Expect.plant(x, 255), 5);
        Expect.same("one", x.count(1), 1);
        Expect.same("fifteen", x.count(3), 15);
        Expect.same("a hang that becomes an entry", Expect.plant(x, 0, 0), 5);
        Expect.same("two", x.count(1), 2);
        Expect.same("sixteen", x.count(3), 16);
        EdgeCampaign full = fifteenEntries();
        Expect.plant(full, 0, 10);
        Expect.same("a hang that is lost", Expect.plant(full, 0, 0), 5);
        counts("lost", full, 3, 16, 8);
        Expect.same("it is counted", full.count(1), 1);
        EdgeCampaign y = Expect.campaign(1, row(8, 0, 0));
        Expect.plant(y, 1);
        y.fuzz(20);
        Expect.same("each trial hangs too", y.count(1), 21);
    }

    private static void losesASeventeenth() {
        EdgeCampaign x = fifteenEntries();
        Expect.plant(x, 0, 10);
        counts("the sixteenth", x, 2, 16, 8);
        Expect.plant(x, 0, 1);
        counts("no news, a known sign", x, 2, 16, 8);
        Expect.same("all 14 calls, and no trap", Expect.plant(x, 0, 0), 5);
        counts("news without a trap", x, 3, 16, 8);
        Expect.plant(x, 0, 0);
        counts("the same news again", x, 4, 16, 8);
        EdgeCampaign fresh = loopAndCalls();
        Expect.plant(fresh, 0, 0);
        counts("the first", fresh, 0, 1, 0);
        Expect.plant(fresh, 0, 0);
        counts("no news", fresh, 0, 1, 0);
    }

    private static void countsHits() {
        EdgeCampaign x = fifteenEntries();
        Expect.same("hits of call 1", x.finding(0, 6), 7);
        Expect.same("hits of call 8", x.finding(7, 6), 1);
        Expect.plant(x, 0, 8, 1, 2, 3);
        Expect.same("hits of call 8, with eight findings", x.finding(7, 6), 2);
        Expect.same("its first input stays", x.finding(7, 7), 2);
        Expect.same("hits of call 7", x.finding(6, 6), 1);
        counts("nothing is lost", x, 1, 15, 8);
        EdgeCampaign trials = Expect.campaign(1, row(8, 0, 1), row(12, 0, 0));
        Expect.plant(trials, 1, 2);
        trials.fuzz(20);
        Expect.same("hits of trials", trials.finding(0, 6), 21);
        Expect.same("findings", trials.count(4), 1);
    }

    private static void makesAFinding() {
        EdgeCampaign x = loopAndCalls();
        Expect.same("a trap", Expect.plant(x, 3, 2, 200, 201, 202, 203), 1);
        int[] due = {1, 22, 1, 9, 0, 0, 1, 6, 2};
        for (int which = 0; which < due.length; which++) {
            Expect.same("finding(0, " + which + ")", x.finding(0, which), due[which]);
        }
        int[] input = {3, 2, 200, 201, 202, 203};
        for (int k = 0; k < 6; k++) {
            Expect.same("byte " + k, x.findingByte(0, false, k), input[k]);
        }
        // Call 2 and no byte before it: a second byte 2 is needed. Of the halves 3 2 200 traps, of the parts of this
        // one none does, and 3 2 is left when its last byte is taken out.
        Expect.same("shortest, byte 0", x.findingByte(0, true, 0), 3);
        Expect.same("shortest, byte 1", x.findingByte(0, true, 1), 2);
        EdgeCampaign empty = Expect.campaign(1, row(12, 0, 0));
        empty.plant();
        Expect.same("of no bytes", empty.finding(0, 7), 0);
        Expect.same("its shortest", empty.finding(0, 8), 0);
    }

    private static EdgeCampaign nineTraps() {
        EdgeCampaign x = new EdgeCampaign(1);
        x.emit(2, 0, 1);
        for (int value = 1; value <= 9; value++) {
            x.emit(12, 0, value);
        }
        return x;
    }

    private static void losesANinthFinding() {
        EdgeCampaign x = nineTraps();
        for (int value = 1; value <= 8; value++) {
            Expect.plant(x, value);
            counts(value + " traps", x, 0, 0, value);
        }
        Expect.same("a ninth trap", Expect.plant(x, 9), 1);
        counts("nine traps", x, 1, 0, 8);
        Expect.plant(x, 9);
        counts("the ninth again", x, 2, 0, 8);
        Expect.plant(x, 8);
        counts("the eighth again", x, 2, 0, 8);
        Expect.same("its hits", x.finding(7, 6), 2);
        Expect.same("there is no finding 8", x.finding(8, 0), -1);
    }

    private static void losesTwice() {
        EdgeCampaign x = fifteenEntries();
        Expect.plant(x, 0, 10);
        counts("an entry, but no finding", x, 2, 16, 8);
        Expect.same("a trap", Expect.plant(x, 0, 11), 1);
        counts("neither", x, 4, 16, 8);
        Expect.plant(x, 0, 11);
        counts("neither again", x, 6, 16, 8);
        Expect.same("executions", x.count(0), 18);
    }
}
