import java.util.Random;

/** Long runs of calls, each answer compared with that of Reference. The seeds are fixed: every time is the same. */
public final class RandomRunsTest {
    private static final int RUNS = 1000;
    /** An object has 512 calls at most; the last ones ask for what the others led to. */
    private static final int CALLS = 512;
    private static final int LAST_QUESTIONS = 130;
    private static final int MOST_CALLS_AT_ONCE = 12;

    private static int fullStores = 0;
    private static int fullFindings = 0;
    private static int lostTwice = 0;
    private static int hangs = 0;
    private static int shortened = 0;
    private static int unfavoured = 0;
    private static final int[] trapKinds = new int[5];

    public static void main(String[] args) {
        for (int run = 0; run < RUNS; run++) {
            oneRun(run);
        }
        System.out.println("full stores " + fullStores + ", full findings " + fullFindings + ", lost twice " + lostTwice
            + ", hangs " + hangs + ", shortened " + shortened + ", unfavoured " + unfavoured
            + ", traps " + java.util.Arrays.toString(trapKinds));
        // The runs are of no use if they do not reach the document's edges.
        Expect.same("full stores were reached", fullStores > 20, true);
        Expect.same("full findings were reached", fullFindings > 5, true);
        Expect.same("executions were lost twice", lostTwice > 5, true);
        Expect.same("runs hung", hangs > 100, true);
        Expect.same("findings were shortened to something", shortened > 100, true);
        Expect.same("entries were not favoured", unfavoured > 100, true);
        for (int kind = 1; kind <= 4; kind++) {
            Expect.same("trap " + kind + " was reached", trapKinds[kind] > 20, true);
        }
        Expect.done();
    }

    private static void oneRun(int run) {
        Random random = new Random(run);
        int seed = run % 10 == 0 ? 0 : random.nextInt();
        EdgeCampaign x = new EdgeCampaign(seed);
        Reference due = new Reference(seed);
        int calls = writeProgram(run, random, x, due);
        if (run % 6 == 1) {
            calls += climb(run, random, x, due);
        }
        int plants = 1 + random.nextInt(20);
        while (calls < CALLS - LAST_QUESTIONS - MOST_CALLS_AT_ONCE) {
            calls += plants > 0 ? onePlant(run, random, x, due) : 0;
            plants--;
            calls += oneCall(run, random, x, due, calls < 200 && run % 4 < 3);
        }
        askInTheEnd(run, random, x, due);
        countWhatWasReached(due);
    }

    private static void countWhatWasReached(Reference due) {
        fullStores += due.entries.size() == 16 ? 1 : 0;
        fullFindings += due.traps.size() == 8 ? 1 : 0;
        lostTwice += due.lostTwice;
        hangs += due.hangs;
        unfavoured += due.entries.size() - due.favoured().size();
        for (Reference.Trap trap : due.traps) {
            trapKinds[trap.sign.get(0)]++;
            shortened += !trap.shortest.isEmpty() && trap.shortest.size() < trap.input.size() ? 1 : 0;
        }
    }

    private static int writeProgram(int run, Random random, EdgeCampaign x, Reference due) {
        int size = random.nextInt(4) == 0 ? random.nextInt(30) : 12 + random.nextInt(13);
        int calls = 0;
        if (run % 3 == 0) {
            calls = writeByteLoop(run, random, x, due);
        } else if (run % 3 == 1) {
            calls = writeCalls(run, random, x, due);
        }
        for (; calls < size; calls++) {
            emit(run, x, due, someOp(random), random.nextInt(4), 0, random);
        }
        if (random.nextInt(3) == 0) {
            emitWrong(run, random, x, due);
            calls++;
        }
        return calls;
    }

    private static int someOp(Random random) {
        int[] ops = {1, 2, 2, 2, 3, 3, 4, 5, 6, 6, 7, 7, 8, 9, 10, 11, 12, 12, 13, 14, 15, 0};
        return ops[random.nextInt(ops.length)];
    }

    private static void emit(int run, EdgeCampaign x, Reference due, int op, int a, int fixed, Random random) {
        int b = fixed;
        if (random != null) {
            b = switch (op) {
                case 0, 10, 15 -> 0;
                case 1, 12 -> random.nextInt(8) == 0 ? random.nextInt() : random.nextInt(12) - 4;
                case 6, 7, 8, 9 -> random.nextInt(24);
                default -> random.nextInt(4);
            };
        }
        same(run, "emit", x.emit(op, a, b) ? 1 : 0, due.emit(op, a, b) ? 1 : 0);
    }

    private static void emitWrong(int run, Random random, EdgeCampaign x, Reference due) {
        int op = random.nextInt(20) - 2;
        int a = random.nextInt(7) - 1;
        int b = random.nextInt(30) - 3;
        same(run, "emit", x.emit(op, a, b) ? 1 : 0, due.emit(op, a, b) ? 1 : 0);
    }

    /** Adds up the input's bytes in r2 and how many there are in r3, then goes on with them. */
    private static int writeByteLoop(int run, Random random, EdgeCampaign x, Reference due) {
        int op = 3 + random.nextInt(3);
        int divisor = 2 + random.nextInt(60);
        int[][] rows = {
            {2, 0, 3}, {7, 0, 6}, {op, 2, 0}, {1, 1, 1}, {3, 3, 1}, {8, 0, 0}, {1, 1, divisor}, {11, 2, 1},
            {12, 2, random.nextInt(9)}, {1, 1, 2}, {11, 2, 1}, {12, 2, random.nextInt(9)}, {13, 0, 2}
        };
        for (int[] row : rows) {
            emit(run, x, due, row[0], row[1], row[2], null);
        }
        return rows.length;
    }

    /** A loop by the first byte, then calls of a place that traps in a call that the second byte says. */
    private static int writeCalls(int run, Random random, EdgeCampaign x, Reference due) {
        int callCount = run % 6 == 1 ? 14 : 2 + random.nextInt(13);
        int called = 7 + callCount;
        int step = -1 - random.nextInt(3);
        int[][] first = {{2, 0, 1}, {1, 2, step}, {3, 0, 2}, {7, 0, 5}, {8, 0, 2}, {1, 1, 1}, {2, 0, 1}};
        for (int[] row : first) {
            emit(run, x, due, row[0], row[1], row[2], null);
        }
        for (int i = 0; i < callCount; i++) {
            emit(run, x, due, 9, 0, called, null);
        }
        emit(run, x, due, 3, 0, 2, null);
        emit(run, x, due, 12, 0, 0, null);
        emit(run, x, due, 10, 0, 0, null);
        return called + 3;
    }

    /** Plants what the loop and the calls tell apart from small to great, so that each may bring something new. */
    private static int climb(int run, Random random, EdgeCampaign x, Reference due) {
        int[] loops = {0, 1, 2, 3, 4, 8, 16};
        int plants = loops.length + 2 + random.nextInt(12);
        int step = -due.program.get(1).b();
        for (int i = 0; i < plants; i++) {
            int first = i < loops.length ? loops[i] * step : 0;
            int second = i < loops.length ? step : (i - loops.length + 2) * step;
            same(run, "feed", x.feed(first) ? 1 : 0, due.feed(first) ? 1 : 0);
            same(run, "feed", x.feed(second) ? 1 : 0, due.feed(second) ? 1 : 0);
            same(run, "plant", x.plant(), due.plant());
        }
        return 3 * plants;
    }

    private static int onePlant(int run, Random random, EdgeCampaign x, Reference due) {
        int n = random.nextInt(8);
        for (int i = 0; i < n; i++) {
            int b = random.nextInt(3) > 0 ? random.nextInt(18) : random.nextInt(262) - 3;
            same(run, "feed", x.feed(b) ? 1 : 0, due.feed(b) ? 1 : 0);
        }
        same(run, "plant", x.plant(), due.plant());
        return n + 1;
    }

    private static int oneCall(int run, Random random, EdgeCampaign x, Reference due, boolean asking) {
        int e = random.nextInt(19) - 1;
        int which = random.nextInt(11) - 1;
        int kind = asking ? random.nextInt(12) : 0;
        switch (kind) {
            case 1 -> same(run, "count", x.count(which), due.count(which));
            case 2 -> same(run, "entry", x.entry(e, which), due.entry(e, which));
            case 3 -> same(run, "entryByte", x.entryByte(e, which), due.entryByte(e, which));
            case 4 -> same(run, "seen", x.seen(e, which), due.seen(e, which));
            case 5 -> same(run, "finding", x.finding(e, which), due.finding(e, which));
            case 6 -> same(run, "findingByte", x.findingByte(e, true, which), due.findingByte(e, true, which));
            case 7 -> same(run, "findingByte", x.findingByte(e, false, which), due.findingByte(e, false, which));
            case 8 -> same(run, "current", x.current(which), due.current(which));
            case 9 -> emitWrong(run, random, x, due);
            case 10 -> same(run, "feed", x.feed(-which) ? 1 : 0, due.feed(-which) ? 1 : 0);
            default -> {
                int n = random.nextInt(23);
                same(run, "fuzz", x.fuzz(n), due.fuzz(n));
            }
        }
        same(run, "state", x.state(), due.x);
        return 2;
    }

    private static void askInTheEnd(int run, Random random, EdgeCampaign x, Reference due) {
        for (int which = -1; which <= 7; which++) {
            same(run, "count " + which, x.count(which), due.count(which));
        }
        for (int which = 0; which <= 2; which++) {
            same(run, "current " + which, x.current(which), due.current(which));
        }
        for (int i = 12; i < LAST_QUESTIONS; i++) {
            int e = random.nextInt(due.entries.size() + 1);
            int c = random.nextInt(due.traps.size() + 1);
            int k = random.nextInt(8) - 1;
            int which = random.nextInt(10);
            switch (i % 6) {
                case 0 -> same(run, "entry " + e + " " + which, x.entry(e, which), due.entry(e, which));
                case 1 -> same(run, "entryByte " + e + " " + k, x.entryByte(e, k), due.entryByte(e, k));
                case 2 -> same(run, "finding " + c + " " + which, x.finding(c, which), due.finding(c, which));
                case 3 -> same(run, "input " + c + " " + k, x.findingByte(c, false, k), due.findingByte(c, false, k));
                case 4 -> same(run, "shortest " + c + " " + k, x.findingByte(c, true, k), due.findingByte(c, true, k));
                default -> askForAnEdge(run, random, x, due, e);
            }
        }
    }

    /** Few pairs of places are edges: so one of an entry's is asked for, or one that is near to it. */
    private static void askForAnEdge(int run, Random random, EdgeCampaign x, Reference due, int e) {
        int number = random.nextInt(576);
        if (e < due.entries.size()) {
            Integer[] edges = due.entries.get(e).run.edges().keySet().toArray(new Integer[0]);
            number = edges[random.nextInt(edges.length)];
        }
        int from = number / 24;
        int to = number % 24 + (random.nextInt(4) == 0 ? 1 : 0);
        same(run, "seen " + from + " " + to, x.seen(from, to), due.seen(from, to));
    }

    private static void same(int run, String what, int got, int due) {
        if (got != due) {
            Expect.same("run " + run + ": " + what, got, due);
            Expect.done();
        }
    }
}
