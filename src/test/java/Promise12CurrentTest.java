public final class Promise12CurrentTest {
    public static void main(String[] args) {
        isNoneWithoutEntries();
        refusesOtherNumbers();
        takesUpEntryZeroAtOnce();
        hasAtMostEightTimesTwo();
        countsTrials();
        takesUpTheNextAtOnce();
        leavesOutFinishedTrials();
        joinsIfTheLastDrawnTrialBringsAnEntry();
        followsTheRule();
        Expect.done();
    }

    private static int[] row(int op, int a, int b) {
        return Expect.row(op, a, b);
    }

    private static void current(String when, EdgeCampaign x, int... due) {
        for (int which = 0; which < due.length; which++) {
            Expect.same(when + ": current(" + which + ")", x.current(which), due[which]);
        }
    }

    /** Goes along 3-4 and 4-2 as often as the first byte says, then 3-5. */
    private static EdgeCampaign looping(int seed) {
        return Expect.campaign(seed, row(2, 0, 1), row(1, 2, -1), row(3, 0, 2), row(7, 0, 5), row(8, 0, 2), row(0, 0, 0));
    }

    private static void isNoneWithoutEntries() {
        EdgeCampaign x = Expect.campaign(1, row(12, 0, 0));
        current("new", x, -1, -1, -1);
        x.plant();
        current("a finding alone", x, -1, -1, -1);
        x.fuzz(5);
        current("no trials", x, -1, -1, -1);
    }

    private static void refusesOtherNumbers() {
        EdgeCampaign x = looping(1);
        x.plant();
        String before = Expect.all(x);
        int[] wrong = {Integer.MIN_VALUE, -1, 3, 4, Integer.MAX_VALUE};
        for (int which : wrong) {
            Expect.same("current(" + which + ")", x.current(which), -1);
        }
        Expect.sameText("nothing changed", Expect.all(x), before);
    }

    private static void takesUpEntryZeroAtOnce() {
        EdgeCampaign x = looping(1);
        x.plant();
        current("no bytes, one edge", x, 0, 0, 2);
        Expect.plant(x, 2);
        Expect.same("not favoured any more", x.entry(0, 4), 0);
        current("the energy stays", x, 0, 0, 2);
        EdgeCampaign y = looping(1);
        Expect.plant(y, 3, 3);
        current("two bytes, three edges", y, 0, 0, 6);
    }

    private static void hasAtMostEightTimesTwo() {
        for (int edges = 1; edges <= 12; edges++) {
            EdgeCampaign x = new EdgeCampaign(1);
            for (int i = 0; i < edges; i++) {
                x.emit(8, 0, i + 1);
            }
            x.emit(0, 0, 0);
            x.plant();
            Expect.same("edges", x.entry(0, 2), edges);
            current(edges + " edges", x, 0, 0, 2 * Math.min(8, edges));
        }
    }

    private static void countsTrials() {
        EdgeCampaign x = Expect.campaign(1, row(8, 0, 1), row(0, 0, 0));
        Expect.plant(x, 1, 2);
        for (int t = 0; t < 34; t++) {
            current("two bytes", x, 0, t, 2);
            Expect.same("finished", x.entry(0, 3), 0);
            x.fuzz(1);
        }
        current("over", x, 0, 32, 2);
        Expect.same("finished", x.entry(0, 3), 1);
        x.fuzz(1);
        current("once more", x, 0, 33, 2);
        x.fuzz(1);
        current("over again", x, 0, 32, 2);
        Expect.same("finished", x.entry(0, 3), 2);
    }

    /** Entry 1 is favoured alone: it does for all edges, and nothing that does so costs less. */
    private static void takesUpTheNextAtOnce() {
        EdgeCampaign x = looping(1);
        x.plant();
        Expect.plant(x, 1);
        Expect.plant(x, 2);
        x.fuzz(2);
        current("entry 0 drew", x, 0, 2, 2);
        x.fuzz(1);
        current("entry 0 was joined", x, 1, 0, 6);
        Expect.same("finished", x.entry(0, 3), 1);
        x.fuzz(20);
        x.fuzz(2);
        current("entry 1 drew", x, 1, 22, 6);
        x.fuzz(1);
        current("entry 2 is not favoured", x, 2, 0, 3);
        x.fuzz(19);
        current("entry 2 drew", x, 2, 19, 3);
    }

    /** When all are finished, the favoured one is taken up again and again, from its trials that draw. */
    private static void leavesOutFinishedTrials() {
        EdgeCampaign x = looping(7);
        int[] rounds = {0, 1, 2, 3, 4, 8, 16};
        for (int often : rounds) {
            Expect.plant(x, often);
        }
        Expect.same("entries", x.count(3), 7);
        for (int i = 0; i < 20; i++) {
            x.fuzz(10);
        }
        for (int e = 0; e < x.count(3); e++) {
            Expect.same("finished " + e, x.entry(e, 3) > 0, true);
        }
        for (int i = 0; i < 50 && x.current(1) != 16; i++) {
            x.fuzz(1);
        }
        for (int i = 0; i < 3; i++) {
            current("entry 1 alone is favoured", x, 1, 16, 6);
            x.fuzz(6);
            current("its last trial", x, 1, 22, 6);
            x.fuzz(1);
        }
    }

    /**
     * One entry, without bytes, with an energy of 2 and the seed 1: its second trial is 181 (see promise 5), which
     * goes along an edge more. So there are two entries when the drawing is over, and a third trial comes.
     */
    private static void joinsIfTheLastDrawnTrialBringsAnEntry() {
        EdgeCampaign x = Expect.campaign(1, row(8, 0, 1), row(2, 0, 1), row(12, 0, -1), row(8, 0, 4), row(0, 0, 0));
        Expect.same("traps without bytes", x.plant(), 1);
        current("new", x, 0, 0, 2);
        x.fuzz(1);
        current("nothing new", x, 0, 1, 2);
        Expect.same("entries", x.count(3), 1);
        x.fuzz(1);
        Expect.same("entries", x.count(3), 2);
        current("a partner came", x, 0, 2, 2);
        x.fuzz(1);
        current("over", x, 1, 0, 4);
    }

    /** Works out from the answers of entry what must be taken up next, trial by trial. */
    private static void followsTheRule() {
        for (int seed = 1; seed <= 20; seed++) {
            for (int trials = 0; trials < 300; trials++) {
                EdgeCampaign x = looping(seed);
                Expect.plant(x, 4, 1);
                Expect.plant(x);
                Expect.plant(x, 2, 2, 2);
                Probe.fuzz(x, trials);
                int e = x.current(0);
                int next = x.current(1) + 1;
                int energy = x.current(2);
                int joining = 16 * x.entry(e, 0) + energy;
                int finished = x.entry(e, 3);
                x.fuzz(1);
                if (next <= joining) {
                    current("goes on", x, e, next, energy);
                } else {
                    Expect.same("finished", x.entry(e, 3), finished + 1);
                    expectTakenUp(x, e);
                }
            }
        }
    }

    private static void expectTakenUp(EdgeCampaign x, int before) {
        int size = x.count(3);
        int e = before;
        do {
            e = (e + 1) % size;
        } while (e != before && x.entry(e, 4) == 0 && x.entry(e, 3) > 0);
        int energy = Math.min(8, x.entry(e, 2)) * (1 + x.entry(e, 4));
        current("taken up", x, e, x.entry(e, 3) > 0 ? 16 * x.entry(e, 0) : 0, energy);
    }
}
