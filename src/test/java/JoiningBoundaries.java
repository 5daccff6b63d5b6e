/** 'Terms': TRIALS, the one that joins, and what follows when the trials of an entry are over. */
final class JoiningBoundaries {
    private static final int SEEDS = 10;
    private static final int TRIALS = 330;
    private static final int MOST_JOININGS = 20;
    /** An entry of each number of bytes that BY_LENGTH tells apart: no more can come. The favoured one is entry 3. */
    private static final int[][] ALL_FIVE = {{}, {21, 22}, {41, 42, 43, 44}, {11}, {31, 32, 33}};
    /** Goes along 2-3 with six bytes and along 2-4 with less: two entries at most, and both are favoured. */
    private static final int[][] SIX_OR_NOT = {{1, 1, 5}, {2, 0, 1}, {7, 0, 4}, {1, 3, 0}};
    /** Loops as often as the first, the second and the third byte say: each number of times tells entries apart. */
    private static final int[][] THREE_LOOPS = {
        {1, 2, -1}, {1, 1, 0}, {2, 0, 1}, {3, 0, 2}, {7, 0, 6}, {8, 0, 3}, {1, 1, 1}, {2, 0, 1}, {3, 0, 2}, {7, 0, 11},
        {8, 0, 8}, {1, 1, 2}, {2, 0, 1}, {3, 0, 2}, {7, 0, 16}, {8, 0, 13}
    };

    private JoiningBoundaries() {
    }

    static void hold() {
        Sentence.holds("then, if there are two entries or more at that time, one:", JoiningBoundaries::joinsWithTwoOrMore);
        Sentence.holds("a partner is entry DRAW(number of entries - 1), or the one behind that if this number is not less "
            + "than the entry's own;", JoiningBoundaries::joinsWithAnother);
        Sentence.holds("c is DRAW(1 + the lesser number of bytes of both);", JoiningBoundaries::cutsWithinBoth);
        Sentence.holds("the entry's bytes before place c, and behind them the partner's from place c on.",
            JoiningBoundaries::takesTheBytesOfBoth);
        Sentence.holds("When the trials are over, the entry is FINISHED once more, and the next one is taken up:",
            JoiningBoundaries::isFinishedOnceMore);
        Sentence.holds("of those behind it, going on from entry 0 behind the last one and ending with itself, the first that "
            + "is favoured or was never finished;", JoiningBoundaries::takesUpTheFirstThatIsDue);
        Sentence.holds("if there is none, the one behind it (entry 0 behind the last).", JoiningBoundaries::someOneIsAlwaysDue);
        Sentence.holds("An entry that was finished before begins with the trials that draw: the ones before are left out.",
            JoiningBoundaries::leavesOutTheTrialsBefore);
    }

    private static void current(String what, EdgeCampaign x, int... due) {
        for (int which = 0; which < due.length; which++) {
            Expect.same(what + ": current(" + which + ")", x.current(which), due[which]);
        }
    }

    /** How many trials come before the one that joins, if that comes. */
    private static int trialsToJoining(EdgeCampaign x) {
        return 16 * x.entry(x.current(0), 0) + x.current(2) - x.current(1);
    }

    private static void goToJoining(EdgeCampaign x) {
        Probe.fuzz(x, trialsToJoining(x));
    }

    private static void joinsWithTwoOrMore() {
        EdgeCampaign one = new Probe(5, Probe.ONE_EDGE, new int[] {7}).behind(17);
        current("one entry, its last trial that draws", one, 0, 17, 2);
        one.fuzz(1);
        Expect.same("it is over", one.entry(0, 3), 1);
        EdgeCampaign two = new Probe(5, SIX_OR_NOT, new int[] {7}, new int[6]).behind(18);
        current("two entries, a trial more", two, 0, 18, 2);
        Expect.same("it is not over", two.entry(0, 3), 0);
        two.fuzz(1);
        Expect.same("now it is over", two.entry(0, 3), 1);
        current("the other one", two, 1, 0, 2);
        // The partner comes before the last trial that draws. No trial brought one of six bytes before.
        EdgeCampaign late = new Probe(5, SIX_OR_NOT, new int[] {7}).behind(17);
        current("one entry, its last trial that draws", late, 0, 17, 2);
        Expect.plant(late, 1, 2, 3, 4, 5, 6);
        late.fuzz(1);
        current("two entries at that time", late, 0, 18, 2);
        // The partner comes too late: the trials are over, and entry 0 was taken up once more.
        EdgeCampaign tooLate = new Probe(5, SIX_OR_NOT, new int[] {7}).behind(18);
        current("once more", tooLate, 0, 16, 2);
        Expect.plant(tooLate, 1, 2, 3, 4, 5, 6);
        current("it stays so", tooLate, 0, 16, 2);
        theLastDrawingBringsTheSecond();
    }

    private static void theLastDrawingBringsTheSecond() {
        int found = 0;
        for (int seed = 1; seed < 200; seed++) {
            EdgeCampaign x = new Probe(seed, Probe.BY_LENGTH, new int[0]).behind(1);
            boolean wasAlone = x.count(3) == 1;
            x.fuzz(1);
            if (wasAlone && x.count(3) == 2) {
                found++;
                current("the last trial that draws brought a partner", x, 0, 2, 2);
                x.fuzz(1);
                current("it joined", x, 1, 0);
            } else if (wasAlone) {
                current("it stays alone", x, 0, 0, 2);
                Expect.same("it is over", x.entry(0, 3), 1);
            }
        }
        Expect.same("it came about", found > 5, true);
    }

    /** What is drawn for a joining, from the state before it. */
    private record Joined(int own, int drawn, int partner, int c, int lesser, int state) {
        static Joined next(EdgeCampaign x) {
            Draws draws = new Draws(x.state());
            int own = x.current(0);
            int drawn = draws.draw(x.count(3) - 1);
            int partner = drawn < own ? drawn : drawn + 1;
            int lesser = Math.min(x.entry(own, 0), x.entry(partner, 0));
            int c = draws.draw(1 + lesser);
            return new Joined(own, drawn, partner, c, lesser, draws.x);
        }

        int[] bytes(EdgeCampaign x) {
            int[] bytes = new int[x.entry(partner, 0)];
            for (int k = 0; k < bytes.length; k++) {
                bytes[k] = x.entryByte(k < c ? own : partner, k);
            }
            return bytes;
        }
    }

    private interface Look {
        void at(EdgeCampaign x, Joined joined);
    }

    /** Each joining of several campaigns executes what is due and leaves the state that is due. */
    private static void followJoinings(int most, int[][] front, int[][] planted, Look look) {
        for (int seed = 1; seed <= SEEDS; seed++) {
            Probe probe = new Probe(seed, front, planted);
            EdgeCampaign scout = probe.behind(0);
            int trials = 0;
            for (int i = 0; i < MOST_JOININGS && trials + trialsToJoining(scout) < most; i++) {
                trials += trialsToJoining(scout);
                // A campaign of its own for each, as an object has 512 calls at most.
                EdgeCampaign x = probe.behind(trials);
                Joined joined = Joined.next(x);
                probe.executes("seed " + seed + ", trial " + trials + ", " + joined, trials, joined.bytes(x));
                look.at(x, joined);
                x.fuzz(1);
                Expect.same("two draws", x.state(), joined.state());
                goToJoining(scout);
                scout.fuzz(1);
                trials++;
            }
        }
    }

    private static void reached(int[] times) {
        for (int i = 0; i < times.length; i++) {
            Expect.same("case " + i + " was reached", times[i] > 0, true);
        }
    }

    private static void joinsWithAnother() {
        int[] times = new int[6];
        followJoinings(TRIALS, Probe.BY_LENGTH, ALL_FIVE, (x, joined) -> {
            Expect.same("another one", joined.partner() != joined.own(), true);
            times[0] += joined.drawn() < joined.own() ? 1 : 0;
            times[1] += joined.drawn() == joined.own() ? 1 : 0;
            times[2] += joined.drawn() > joined.own() ? 1 : 0;
            times[3] += joined.own() == 0 && joined.drawn() == 0 ? 1 : 0;
            times[4] += joined.own() == 4 ? 1 : 0;
            times[5] += joined.partner() == 4 ? 1 : 0;
        });
        reached(times);
        int[] ofTwo = new int[2];
        followJoinings(TRIALS, SIX_OR_NOT, new int[][] {{1, 2, 3}, {11, 12, 13, 14, 15, 16}}, (x, joined) -> {
            Expect.same("the other one", joined.partner(), 1 - joined.own());
            ofTwo[joined.own()]++;
        });
        reached(ofTwo);
        int[] ofSixteen = new int[4];
        followJoinings(3 * TRIALS, THREE_LOOPS, sixteen(), (x, joined) -> {
            Expect.same("a full store", x.count(3), 16);
            ofSixteen[0] += joined.partner() == 0 ? 1 : 0;
            ofSixteen[1] += joined.partner() == 15 ? 1 : 0;
            ofSixteen[2] += joined.drawn() == joined.own() ? 1 : 0;
            ofSixteen[3] += joined.drawn() == joined.own() - 1 ? 1 : 0;
        });
        reached(ofSixteen);
    }

    private static int[][] sixteen() {
        int[] times = {1, 2, 3, 4, 8};
        int[][] planted = new int[16][3];
        for (int i = 0; i < 15; i++) {
            planted[i + 1][i / 5] = times[i % 5];
        }
        return planted;
    }

    private static void cutsWithinBoth() {
        int[] times = new int[5];
        followJoinings(TRIALS, Probe.BY_LENGTH, ALL_FIVE, (x, joined) -> {
            boolean ownIsShorter = x.entry(joined.own(), 0) < x.entry(joined.partner(), 0);
            times[0] += joined.c() == 0 && joined.lesser() > 0 ? 1 : 0;
            times[1] += joined.c() == joined.lesser() && joined.c() > 0 && ownIsShorter ? 1 : 0;
            times[2] += joined.c() == joined.lesser() && joined.c() > 0 && !ownIsShorter ? 1 : 0;
            times[3] += joined.lesser() == 0 && ownIsShorter ? 1 : 0;
            times[4] += joined.lesser() == 0 && !ownIsShorter ? 1 : 0;
        });
        reached(times);
    }

    private static void takesTheBytesOfBoth() {
        int[] times = new int[5];
        followJoinings(TRIALS, SIX_OR_NOT, new int[][] {{1, 2, 3}, {11, 12, 13, 14, 15, 16}}, (x, joined) -> {
            int n = joined.bytes(x).length;
            Expect.same("as many bytes as the partner", n, x.entry(joined.partner(), 0));
            times[0] += joined.c() == 0 ? 1 : 0;
            times[1] += joined.c() > 0 && joined.c() < n ? 1 : 0;
            times[2] += joined.c() == n ? 1 : 0;
            times[3] += n == 6 ? 1 : 0;
            times[4] += n == 3 ? 1 : 0;
        });
        reached(times);
        // Nothing is left of an entry without bytes but the partner, nor of a partner without bytes but nothing.
        int[] without = new int[2];
        followJoinings(TRIALS, SIX_OR_NOT, new int[][] {{}, {11, 12, 13, 14, 15, 16}}, (x, joined) -> {
            Expect.same("c", joined.c(), 0);
            Expect.same("bytes", joined.bytes(x).length, joined.own() == 0 ? 6 : 0);
            without[joined.own()]++;
        });
        reached(without);
    }

    private static void isFinishedOnceMore() {
        EdgeCampaign x = new Probe(3, Probe.ONE_EDGE, new int[] {7}).behind(17);
        Expect.same("before its last trial", x.entry(0, 3), 0);
        x.fuzz(1);
        Expect.same("behind its last trial", x.entry(0, 3), 1);
        for (int times = 2; times <= 30; times++) {
            x.fuzz(1);
            Expect.same("in between", x.entry(0, 3), times - 1);
            x.fuzz(1);
            Expect.same("once more", x.entry(0, 3), times);
        }
        x.fuzz(20);
        Expect.same("ten times in one call", x.entry(0, 3), 40);
        // The others are not: entry 0 is over behind 19 trials, entry 1 behind 99 more.
        EdgeCampaign two = new Probe(5, SIX_OR_NOT, new int[] {7}, new int[6]).behind(19);
        Expect.same("entry 0", two.entry(0, 3), 1);
        Expect.same("entry 1", two.entry(1, 3), 0);
        Probe.fuzz(two, 98);
        Expect.same("entry 1, before its last trial", two.entry(1, 3), 0);
        two.fuzz(1);
        Expect.same("entry 1", two.entry(1, 3), 1);
        Expect.same("entry 0", two.entry(0, 3), 1);
    }

    /** Makes the rest of the trials of the entry that is taken up, and tells the next one. */
    private static int nextBehind(EdgeCampaign x) {
        goToJoining(x);
        x.fuzz(1);
        return x.current(0);
    }

    private static void takesUpTheFirstThatIsDue() {
        EdgeCampaign alone = new Probe(3, Probe.ONE_EDGE, new int[0]).behind(2);
        current("itself alone", alone, 0, 0, 2);
        // Both are favoured: entry 1 is behind entry 0, and entry 0 behind the last.
        EdgeCampaign both = new Probe(3, SIX_OR_NOT, new int[] {7}, new int[6]).behind(0);
        for (int i = 0; i < 6; i++) {
            Expect.same("the other one", nextBehind(both), 1 - i % 2);
        }
        // Entry 3 alone is favoured. The others are taken up once, as they were never finished; then it comes behind
        // the last, past 0, 1 and 2, and then behind itself, past 4, 0, 1 and 2.
        EdgeCampaign five = new Probe(3, Probe.BY_LENGTH, ALL_FIVE).behind(0);
        int[] due = {1, 2, 3, 4, 3, 3, 3};
        for (int i = 0; i < due.length; i++) {
            Expect.same("behind entry " + five.current(0), nextBehind(five), due[i]);
            Expect.same("entries", five.count(3), 5);
        }
        for (int e = 0; e < 5; e++) {
            Expect.same("favoured " + e, five.entry(e, 4), e == 3 ? 1 : 0);
            Expect.same("finished " + e, five.entry(e, 3), e == 3 ? 3 : 1);
        }
        aNewOneIsDueOnce();
    }

    /** Entry 1, with a byte, is favoured alone, and the others are finished. Then one of four bytes comes. */
    private static void aNewOneIsDueOnce() {
        int found = 0;
        for (int seed = 1; seed < 300; seed++) {
            EdgeCampaign x = new Probe(seed, Probe.BY_LENGTH, new int[0], new int[1], new int[2], new int[3]).behind(0);
            boolean isAsWanted = nextBehind(x) == 1 && nextBehind(x) == 2 && nextBehind(x) == 3 && nextBehind(x) == 1
                && x.count(3) == 4;
            if (isAsWanted) {
                found++;
                Expect.plant(x, 41, 42, 43, 44);
                Expect.same("entries", x.count(3), 5);
                Expect.same("it is not favoured", x.entry(4, 4), 0);
                Expect.same("never finished", nextBehind(x), 4);
                Expect.same("behind the last, past entry 0", nextBehind(x), 1);
                Expect.same("all were finished", nextBehind(x), 1);
            }
        }
        Expect.same("it came about", found > 0, true);
    }

    /** The first seen edge has a top, which is favoured: so, going round, there is always one to be taken up. */
    private static void someOneIsAlwaysDue() {
        for (int seed = 1; seed <= 20; seed++) {
            Probe probe = new Probe(seed, Probe.BY_LENGTH, new int[] {1, 2});
            for (int trials = 0; trials < 200; trials += 3) {
                EdgeCampaign x = probe.behind(trials);
                int favoured = 0;
                for (int e = 0; e < x.count(3); e++) {
                    favoured += x.entry(e, 4);
                }
                Expect.same("some are favoured", favoured > 0, true);
                nextBehind(x);
                boolean isTakenUpNow = x.current(1) == 0 || x.current(1) == 16 * x.entry(x.current(0), 0);
                boolean isDue = x.entry(x.current(0), 4) == 1 || x.entry(x.current(0), 3) == 0;
                Expect.same("the next one is due", !isTakenUpNow || isDue, true);
            }
        }
    }

    private static void leavesOutTheTrialsBefore() {
        for (int n = 0; n <= 6; n++) {
            EdgeCampaign x = new Probe(3, Probe.ONE_EDGE, new int[n]).behind(0);
            current("never finished", x, 0, 0, 2);
            Probe.fuzz(x, 16 * n + 1);
            current("its last trial", x, 0, 16 * n + 1, 2);
            for (int times = 1; times <= 3; times++) {
                x.fuzz(1);
                current("finished before", x, 0, 16 * n, 2);
                int state = x.state();
                x.fuzz(1);
                current("its last trial again", x, 0, 16 * n + 1, 2);
                Expect.same("it drew", x.state() != state, true);
            }
        }
    }
}
