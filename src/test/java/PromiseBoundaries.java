/** The promises 1 to 13, and 'A call that answers NONE or false changes nothing.' */
final class PromiseBoundaries {
    private static final int LEAST = Integer.MIN_VALUE;
    private static final int MOST = Integer.MAX_VALUE;

    private PromiseBoundaries() {
    }

    static void hold() {
        Sentence.holds("A call that answers NONE or false changes nothing.", PromiseBoundaries::refusedCallsChangeNothing);
        Sentence.holds("An empty program, no entries and findings, an empty draft;", PromiseBoundaries::newObjectsAreEmpty);
        Sentence.holds("the generator's state is seed, or 1 if seed is 0.", PromiseBoundaries::seedZeroIsOne);
        Sentence.holds("Appends an instruction to the program;", PromiseBoundaries::emitAppends);
        Sentence.holds("false when op, a or b is not as said there, 24 are there, or an input was executed.",
            PromiseBoundaries::emitRefuses);
        Sentence.holds("Appends a byte to the draft;", PromiseBoundaries::feedAppends);
        Sentence.holds("false when b is not 0 .. 255 or it has six.", PromiseBoundaries::feedRefuses);
        Sentence.holds("Executes the draft, which is empty then.", PromiseBoundaries::plantEmptiesTheDraft);
        Sentence.holds("Answers the outcome.", PromiseBoundaries::plantAnswersTheOutcome);
        Sentence.holds("Makes the next n trials; answers n,", PromiseBoundaries::fuzzMakesTrials);
        Sentence.holds("or 0, making none, when there is no entry.", PromiseBoundaries::fuzzNeedsAnEntry);
        Sentence.holds("NONE when n is not 1 .. 20.", PromiseBoundaries::fuzzRefuses);
        Sentence.holds("0 how many executions there were, 1 hangs, 2 LOST, 3 entries, 4 findings, 5 seen edges, 6 seen pairs;",
            PromiseBoundaries::countAnswers);
        Sentence.holds("NONE for other numbers.", PromiseBoundaries::countRefuses);
        Sentence.holds("Of entry e: 0 its number of bytes, 1 its steps, 2 the number of edges its run went along, "
            + "3 how often it was finished, 4 whether it is favoured now (1 or 0).", PromiseBoundaries::entryAnswers);
        Sentence.holds("NONE when there is none or which is not 0 .. 4.", PromiseBoundaries::entryRefuses);
        Sentence.holds("Byte k of the input of entry e; NONE when there is none.", PromiseBoundaries::entryByteRefuses);
        Sentence.holds("The sum of 2 to the b for the buckets b with which the edge is seen;", PromiseBoundaries::seenAddsUp);
        Sentence.holds("0 when it is not, or there is no such edge.", PromiseBoundaries::seenIsZero);
        Sentence.holds("Of finding c, in the order in which they were made:", PromiseBoundaries::findingsAreInOrder);
        Sentence.holds("0 the trap, 1 its HERE, 2 how many places are on the stack, 3 to 5 these, the latest first "
            + "(0 where there is none), 6 its hits, 7 the number of bytes of its input, 8 of its shortest.",
            PromiseBoundaries::findingAnswers);
        Sentence.holds("NONE when there is none or which is not 0 .. 8.", PromiseBoundaries::findingRefuses);
        Sentence.holds("Byte k of the input of finding c, or of its shortest; NONE when there is none.",
            PromiseBoundaries::findingByteRefuses);
        Sentence.holds("0 the entry that is taken up, 1 the number of its next trial (those that were left out are counted), "
            + "2 its energy;", PromiseBoundaries::currentAnswers);
        Sentence.holds("NONE when there is no entry or which is not 0 .. 2.", PromiseBoundaries::currentRefuses);
        Sentence.holds("(When the trials of an entry are over, the next one is taken up at once, in the same call.)",
            PromiseBoundaries::theNextIsTakenUpAtOnce);
        Sentence.holds("The generator's state.", PromiseBoundaries::stateAnswers);
    }

    private static int[] row(int op, int a, int b) {
        return Expect.row(op, a, b);
    }

    /** Goes along 3-4 and 4-2 as often as the first byte says, then 3-5, and traps on two bytes. */
    private static EdgeCampaign looping(int seed) {
        return Expect.campaign(seed, row(2, 0, 1), row(1, 2, -1), row(3, 0, 2), row(7, 0, 5), row(8, 0, 2), row(15, 0, 0),
            row(12, 0, 2));
    }

    /** Makes every call that must be refused in any state but for emit, which is refused behind an execution alone. */
    private static void makeRefusedCalls(EdgeCampaign x) {
        int[] wrong = {LEAST, -1, MOST};
        for (int n : wrong) {
            Expect.same("emit", x.emit(n, 0, 0), false);
            Expect.same("emit", x.emit(0, n, 0), false);
            Expect.same("emit", x.emit(0, 0, n), false);
            Expect.same("feed", x.feed(n), false);
            Expect.same("fuzz", x.fuzz(n), -1);
            Expect.same("count", x.count(n), -1);
            Expect.same("entry", x.entry(n, 0), -1);
            Expect.same("entry", x.entry(0, n), -1);
            Expect.same("entryByte", x.entryByte(n, 0), -1);
            Expect.same("entryByte", x.entryByte(0, n), -1);
            Expect.same("finding", x.finding(n, 0), -1);
            Expect.same("finding", x.finding(0, n), -1);
            Expect.same("findingByte", x.findingByte(n, true, 0), -1);
            Expect.same("findingByte", x.findingByte(0, false, n), -1);
            Expect.same("current", x.current(n), -1);
        }
        Expect.same("feed", x.feed(256), false);
        Expect.same("fuzz", x.fuzz(0), -1);
        Expect.same("fuzz", x.fuzz(21), -1);
        Expect.same("count", x.count(7), -1);
        Expect.same("entry", x.entry(16, 0), -1);
        Expect.same("entry", x.entry(0, 5), -1);
        Expect.same("entryByte", x.entryByte(0, 6), -1);
        Expect.same("finding", x.finding(8, 0), -1);
        Expect.same("finding", x.finding(0, 9), -1);
        Expect.same("findingByte", x.findingByte(0, true, 6), -1);
        Expect.same("current", x.current(3), -1);
    }

    /** The calls of a campaign: emit, feed, plant and fuzz. At one moment the draft has six bytes. */
    private static final int[][] SCRIPT = {
        {'e', 2, 0, 1}, {'e', 1, 2, -1}, {'e', 3, 0, 2}, {'e', 7, 0, 5}, {'e', 8, 0, 2}, {'e', 15, 0, 0}, {'e', 12, 0, 2},
        {'z', 5}, {'f', 3}, {'p'}, {'z', 20}, {'f', 9}, {'f', 9}, {'p'}, {'z', 7}, {'f', 1}, {'f', 0}, {'f', 255}, {'f', 4},
        {'z', 20}, {'f', 5}, {'f', 6}, {'p'}, {'p'}, {'z', 1}, {'z', 20}, {'z', 20}
    };

    private static int answer(EdgeCampaign x, int[] call) {
        return switch (call[0]) {
            case 'e' -> x.emit(call[1], call[2], call[3]) ? 1 : 0;
            case 'f' -> x.feed(call[1]) ? 1 : 0;
            case 'p' -> x.plant();
            default -> x.fuzz(call[1]);
        };
    }

    /** At each moment of a campaign, refused calls are made; then it goes on as another one goes on without them. */
    private static void refusedCallsChangeNothing() {
        for (int moment = 0; moment <= SCRIPT.length; moment++) {
            EdgeCampaign plain = new EdgeCampaign(11);
            EdgeCampaign x = new EdgeCampaign(11);
            int bytes = 0;
            boolean wasExecuted = false;
            for (int i = 0; i < SCRIPT.length; i++) {
                if (i == moment) {
                    makeRefusedCalls(x);
                    Expect.same("emit behind an execution", wasExecuted && x.emit(12, 0, 0), false);
                    Expect.same("a seventh byte", bytes == 6 && x.feed(7), false);
                }
                Expect.same("call " + i + ", refused ones at " + moment, answer(x, SCRIPT[i]), answer(plain, SCRIPT[i]));
                wasExecuted |= SCRIPT[i][0] == 'p';
                bytes = SCRIPT[i][0] == 'p' ? 0 : bytes + (SCRIPT[i][0] == 'f' ? 1 : 0);
            }
            Expect.sameText("refused calls at " + moment, Expect.all(x), Expect.all(plain));
            Expect.same("entries and findings came", x.count(3) > 2 && x.count(4) > 0, true);
        }
        // A 25th instruction is refused, and the program is as long as before.
        EdgeCampaign full = new EdgeCampaign(1);
        for (int i = 0; i < 24; i++) {
            full.emit(15, 3, 0);
        }
        Expect.same("a 25th instruction", full.emit(12, 0, 0), false);
        Expect.same("the program ends", full.plant(), 0);
    }

    private static void newObjectsAreEmpty() {
        String first = Expect.all(new EdgeCampaign(7));
        EdgeCampaign x = new EdgeCampaign(7);
        for (int which = 0; which <= 6; which++) {
            Expect.same("count(" + which + ")", x.count(which), 0);
        }
        Expect.same("entry(0, 0)", x.entry(0, 0), -1);
        Expect.same("finding(0, 0)", x.finding(0, 0), -1);
        Expect.same("current(0)", x.current(0), -1);
        Expect.same("the empty program ends", x.plant(), 0);
        EdgeCampaign draft = Expect.campaign(7, row(15, 0, 0), row(12, 0, 0));
        Expect.same("the draft has no bytes", draft.plant(), 1);
        EdgeCampaign six = new EdgeCampaign(7);
        for (int i = 0; i < 6; i++) {
            Expect.same("there is room for six", six.feed(0), true);
        }
        EdgeCampaign program = new EdgeCampaign(7);
        for (int i = 0; i < 24; i++) {
            Expect.same("there is room for 24", program.emit(0, 0, 0), true);
        }
        // What other objects did is theirs alone.
        EdgeCampaign other = looping(7);
        Expect.plant(other, 3, 3);
        other.fuzz(20);
        Expect.sameText("another new object", Expect.all(new EdgeCampaign(7)), first);
    }

    private static void seedZeroIsOne() {
        int[] seeds = {LEAST, -1, 1, 2, MOST};
        for (int seed : seeds) {
            Expect.same("seed " + seed, new EdgeCampaign(seed).state(), seed);
        }
        Expect.same("seed 0", new EdgeCampaign(0).state(), 1);
        EdgeCampaign zero = looping(0);
        EdgeCampaign one = looping(1);
        Expect.plant(zero, 5);
        Expect.plant(one, 5);
        Probe.fuzz(zero, 100);
        Probe.fuzz(one, 100);
        Expect.sameText("seeds 0 and 1", Expect.all(zero), Expect.all(one));
    }

    private static void emitAppends() {
        EdgeCampaign x = Expect.campaign(1, row(1, 0, 4), row(1, 0, 5), row(12, 0, 4), row(12, 0, 5));
        Expect.same("a trap", x.plant(), 1);
        Expect.same("each behind the other", x.finding(0, 1), 3);
        EdgeCampaign y = new EdgeCampaign(1);
        Expect.same("feed(1)", y.feed(1), true);
        Expect.same("behind a byte", y.emit(1, 0, 5), true);
        Expect.same("fuzz(1)", y.fuzz(1), 0);
        Expect.same("behind no trials", y.emit(12, 0, 5), true);
        Expect.same("a trap", y.plant(), 1);
    }

    private static void emitRefuses() {
        EdgeCampaign x = new EdgeCampaign(1);
        Expect.same("op -1", x.emit(-1, 0, 0), false);
        Expect.same("op 16", x.emit(16, 0, 0), false);
        Expect.same("a -1", x.emit(12, -1, 0), false);
        Expect.same("a 4", x.emit(12, 4, 0), false);
        Expect.same("b 4", x.emit(3, 0, 4), false);
        Expect.same("b 24", x.emit(8, 0, 24), false);
        Expect.same("b 1", x.emit(0, 0, 1), false);
        Expect.same("the first that is right", x.emit(12, 3, 0), true);
        Expect.same("a trap", x.plant(), 1);
        Expect.same("nothing is before it", x.finding(0, 1), 0);
        Expect.same("an input was executed", x.emit(12, 0, 0), false);
        EdgeCampaign empty = new EdgeCampaign(1);
        empty.plant();
        Expect.same("an input was executed by an empty program", empty.emit(12, 0, 0), false);
        Expect.same("it stays empty", empty.plant(), 0);
        EdgeCampaign full = new EdgeCampaign(1);
        for (int i = 0; i < 24; i++) {
            Expect.same("instruction " + i, full.emit(1, 0, 0), true);
        }
        Expect.same("a 25th", full.emit(1, 0, 0), false);
        Expect.same("a 25th again", full.emit(12, 0, 0), false);
    }

    private static void feedAppends() {
        EdgeCampaign x = Expect.campaign(1, row(12, 0, 0));
        Expect.plant(x, 0, 255, 1, 254, 2, 253);
        int[] due = {0, 255, 1, 254, 2, 253, -1};
        for (int k = 0; k < due.length; k++) {
            Expect.same("byte " + k, x.findingByte(0, false, k), due[k]);
        }
    }

    private static void feedRefuses() {
        int[] wrong = {LEAST, -256, -1, 256, 257, MOST};
        EdgeCampaign x = Expect.campaign(1, row(12, 0, 0));
        for (int b : wrong) {
            Expect.same("feed(" + b + ")", x.feed(b), false);
        }
        Expect.same("feed(0)", x.feed(0), true);
        Expect.same("feed(255)", x.feed(255), true);
        for (int i = 2; i < 6; i++) {
            Expect.same("feed " + i, x.feed(i), true);
        }
        Expect.same("a seventh", x.feed(6), false);
        Expect.same("a seventh that is wrong", x.feed(-1), false);
        x.plant();
        Expect.same("six bytes", x.finding(0, 7), 6);
        Expect.same("the sixth", x.findingByte(0, false, 5), 5);
        Expect.same("room again", x.feed(6), true);
    }

    private static void plantEmptiesTheDraft() {
        EdgeCampaign x = Expect.campaign(1, row(15, 0, 0), row(12, 0, 6), row(12, 0, 0));
        Expect.same("six bytes", Expect.plant(x, 1, 2, 3, 4, 5, 6), 1);
        Expect.same("its place", x.finding(0, 1), 1);
        Expect.same("none are left", x.plant(), 1);
        Expect.same("its place", x.finding(1, 1), 2);
        Expect.same("six bytes again", Expect.plant(x, 6, 5, 4, 3, 2, 1), 1);
        Expect.same("hits", x.finding(0, 6), 2);
        // A trial executes another input than the draft, which stays.
        EdgeCampaign y = Expect.campaign(1, row(8, 0, 1), row(15, 0, 0), row(12, 0, 6));
        y.plant();
        for (int i = 0; i < 5; i++) {
            y.feed(i);
        }
        y.fuzz(2);
        Expect.same("findings", y.count(4), 0);
        Expect.same("a sixth", y.feed(5), true);
        Expect.same("a seventh", y.feed(6), false);
        Expect.same("six bytes", y.plant(), 1);
    }

    private static void plantAnswersTheOutcome() {
        Expect.same("an end", Expect.campaign(1, row(0, 0, 0)).plant(), 0);
        Expect.same("an empty program", new EdgeCampaign(1).plant(), 0);
        Expect.same("trap 1", Expect.campaign(1, row(12, 0, 0)).plant(), 1);
        Expect.same("trap 2", Expect.campaign(1, row(11, 0, 0)).plant(), 2);
        Expect.same("trap 3", Expect.campaign(1, row(1, 0, 4), row(14, 0, 0)).plant(), 3);
        Expect.same("trap 4", Expect.campaign(1, row(9, 0, 0)).plant(), 4);
        Expect.same("a hang", Expect.campaign(1, row(8, 0, 0)).plant(), 5);
        EdgeCampaign nine = new EdgeCampaign(1);
        nine.emit(2, 0, 1);
        for (int value = 1; value <= 9; value++) {
            nine.emit(12, 0, value);
        }
        for (int value = 1; value <= 9; value++) {
            Expect.same("a trap, though the ninth is lost", Expect.plant(nine, value), 1);
        }
        Expect.same("no trap", Expect.plant(nine, 10), 0);
    }

    private static void fuzzMakesTrials() {
        int[] numbers = {1, 2, 19, 20};
        EdgeCampaign x = looping(5);
        EdgeCampaign single = looping(5);
        Expect.plant(x, 9, 9);
        Expect.plant(single, 9, 9);
        int executions = 1;
        for (int n : numbers) {
            Expect.same("fuzz(" + n + ")", x.fuzz(n), n);
            executions += n;
            Expect.same("executions", x.count(0), executions);
            for (int i = 0; i < n; i++) {
                Expect.same("fuzz(1)", single.fuzz(1), 1);
            }
        }
        Expect.sameText("one by one", Expect.all(single), Expect.all(x));
    }

    private static void fuzzNeedsAnEntry() {
        EdgeCampaign x = Expect.campaign(5, row(15, 0, 0), row(12, 0, 0), row(12, 0, 1), row(8, 0, 4), row(0, 0, 0));
        Expect.same("fuzz(1) of a new object", x.fuzz(1), 0);
        Expect.same("fuzz(20) of a new object", x.fuzz(20), 0);
        Expect.same("executions", x.count(0), 0);
        Expect.same("a trap", x.plant(), 1);
        Expect.same("a trap", Expect.plant(x, 1), 1);
        Expect.same("fuzz(20) with findings and no entry", x.fuzz(20), 0);
        Expect.same("executions", x.count(0), 2);
        Expect.same("state", x.state(), 5);
        Expect.same("an entry", Expect.plant(x, 1, 2), 0);
        Expect.same("fuzz(20) with an entry", x.fuzz(20), 20);
        Expect.same("executions", x.count(0), 23);
    }

    private static void fuzzRefuses() {
        int[] wrong = {LEAST, -20, -1, 0, 21, 22, 255, MOST};
        EdgeCampaign x = looping(5);
        for (int n : wrong) {
            Expect.same("fuzz(" + n + ") without entries", x.fuzz(n), -1);
        }
        Expect.plant(x, 9);
        String before = Expect.all(x);
        for (int n : wrong) {
            Expect.same("fuzz(" + n + ")", x.fuzz(n), -1);
        }
        Expect.sameText("nothing changed", Expect.all(x), before);
    }

    private static void counts(String what, EdgeCampaign x, int... due) {
        for (int which = 0; which < due.length; which++) {
            Expect.same(what + ": count(" + which + ")", x.count(which), due[which]);
        }
    }

    private static void countAnswers() {
        EdgeCampaign x = looping(1);
        counts("new", x, 0, 0, 0, 0, 0, 0, 0);
        x.plant();
        counts("no bytes", x, 1, 0, 0, 1, 0, 1, 1);
        Expect.plant(x, 2, 2);
        counts("a trap", x, 2, 0, 0, 2, 1, 3, 3);
        Expect.plant(x, 255);
        counts("a hang", x, 3, 1, 0, 3, 1, 3, 5);
        Expect.plant(x, 0);
        counts("nothing new", x, 4, 1, 0, 3, 1, 3, 5);
        x.fuzz(20);
        Expect.same("executions", x.count(0), 24);
    }

    private static void countRefuses() {
        int[] wrong = {LEAST, -2, -1, 7, 8, MOST};
        EdgeCampaign x = looping(1);
        for (int which : wrong) {
            Expect.same("count(" + which + ") of a new object", x.count(which), -1);
        }
        Expect.plant(x, 2, 2);
        for (int which : wrong) {
            Expect.same("count(" + which + ")", x.count(which), -1);
        }
    }

    private static void entry(EdgeCampaign x, int e, int... due) {
        for (int which = 0; which < due.length; which++) {
            Expect.same("entry(" + e + ", " + which + ")", x.entry(e, which), due[which]);
        }
    }

    private static void entryAnswers() {
        EdgeCampaign x = looping(1);
        x.plant();
        // 0, 1, 2, 3, 5 and 6 are done.
        entry(x, 0, 0, 6, 1, 0, 1);
        Expect.plant(x, 255, 1, 2, 3, 4, 5);
        entry(x, 1, 6, 64, 2, 0, 1);
        entry(x, 0, 0, 6, 1, 0, 1);
        Expect.plant(x, 1);
        entry(x, 2, 1, 9, 3, 0, 1);
        entry(x, 0, 0, 6, 1, 0, 0);
        entry(x, 1, 6, 64, 2, 0, 0);
        x.fuzz(3);
        entry(x, 0, 0, 6, 1, 1, 0);
    }

    private static void entryRefuses() {
        int[] wrong = {LEAST, -1, 5, 6, MOST};
        int[] none = {LEAST, -1, 1, 2, 15, 16, 17, MOST};
        EdgeCampaign x = looping(1);
        Expect.same("entry(0, 0) of a new object", x.entry(0, 0), -1);
        Expect.plant(x, 1);
        for (int which : wrong) {
            Expect.same("entry(0, " + which + ")", x.entry(0, which), -1);
        }
        for (int e : none) {
            for (int which = -1; which <= 5; which++) {
                Expect.same("entry(" + e + ", " + which + ")", x.entry(e, which), -1);
            }
        }
    }

    private static void entryByteRefuses() {
        EdgeCampaign x = looping(1);
        Expect.same("entryByte(0, 0) of a new object", x.entryByte(0, 0), -1);
        x.plant();
        Expect.same("a byte of none", x.entryByte(0, 0), -1);
        Expect.plant(x, 255, 0, 3, 4, 5, 6);
        int[] due = {255, 0, 3, 4, 5, 6};
        for (int k = 0; k < 6; k++) {
            Expect.same("entryByte(1, " + k + ")", x.entryByte(1, k), due[k]);
        }
        int[] wrong = {LEAST, -1, 6, 7, MOST};
        for (int k : wrong) {
            Expect.same("entryByte(1, " + k + ")", x.entryByte(1, k), -1);
        }
        int[] none = {LEAST, -1, 2, 15, 16, MOST};
        for (int e : none) {
            Expect.same("entryByte(" + e + ", 0)", x.entryByte(e, 0), -1);
        }
        Expect.plant(x, 1);
        Expect.same("the only byte", x.entryByte(2, 0), 1);
        Expect.same("behind the only byte", x.entryByte(2, 1), -1);
    }

    private static void seenAddsUp() {
        EdgeCampaign x = looping(1);
        int[] times = {1, 2, 3, 7, 15, 18};
        int due = 0;
        for (int bucket = 0; bucket < times.length; bucket++) {
            Expect.plant(x, times[bucket]);
            due += 1 << bucket;
            Expect.same("seen(4, 2)", x.seen(4, 2), due);
            Expect.same("seen(3, 4)", x.seen(3, 4), due);
            Expect.same("seen(3, 5)", x.seen(3, 5), 1);
        }
        Expect.same("all six buckets", x.seen(4, 2), 63);
        EdgeCampaign last = looping(1);
        Expect.plant(last, 18);
        Expect.same("the last bucket alone", last.seen(4, 2), 32);
    }

    private static void seenIsZero() {
        EdgeCampaign x = Expect.campaign(1, row(8, 0, 0));
        Expect.same("seen(0, 0) of a new object", x.seen(0, 0), 0);
        x.plant();
        Expect.same("seen(0, 0)", x.seen(0, 0), 32);
        int[] wrong = {LEAST, -24, -1, 24, 25, 576, MOST};
        for (int place : wrong) {
            for (int other : wrong) {
                Expect.same("seen(" + place + ", " + other + ")", x.seen(place, other), 0);
            }
            Expect.same("seen(" + place + ", 0)", x.seen(place, 0), 0);
            Expect.same("seen(0, " + place + ")", x.seen(0, place), 0);
            Expect.same("seen(23, " + place + ")", x.seen(23, place), 0);
        }
        Expect.same("seen(-1, 24), whose number would be 0", x.seen(-1, 24), 0);
        Expect.same("seen(1, -24), whose number would be 0", x.seen(1, -24), 0);
        Expect.same("seen(0, 23), behind the last", x.seen(0, 23), 0);
        Expect.same("seen(23, 23), behind the last", x.seen(23, 23), 0);
        int[][] full = new int[24][];
        java.util.Arrays.fill(full, row(0, 0, 0));
        full[0] = row(8, 0, 23);
        full[23] = row(8, 0, 23);
        EdgeCampaign far = Expect.campaign(1, full);
        far.plant();
        Expect.same("seen(0, 23)", far.seen(0, 23), 1);
        Expect.same("seen(23, 23)", far.seen(23, 23), 32);
        Expect.same("seen(1, -1), whose number would be 23", far.seen(1, -1), 0);
        Expect.same("seen(-1, 47), whose number would be 23", far.seen(-1, 47), 0);
    }

    private static void finding(EdgeCampaign x, int c, int... due) {
        for (int which = 0; which < due.length; which++) {
            Expect.same("finding(" + c + ", " + which + ")", x.finding(c, which), due[which]);
        }
    }

    private static void findingsAreInOrder() {
        EdgeCampaign x = new EdgeCampaign(1);
        x.emit(2, 0, 1);
        for (int value = 1; value <= 9; value++) {
            x.emit(12, 0, value);
        }
        for (int value = 9; value >= 1; value--) {
            Expect.plant(x, value);
            Expect.plant(x, 9);
        }
        Expect.same("findings", x.count(4), 8);
        for (int c = 0; c < 8; c++) {
            finding(x, c, 1, 9 - c, 0, 0, 0, 0, c == 0 ? 10 : 1, 1, 1);
        }
        Expect.same("a ninth", x.finding(8, 0), -1);
    }

    private static void findingAnswers() {
        // As many calls as bytes, and a trap: 0 to 3 places are on the stack, and with four bytes the fourth call traps.
        int[][] rows = {row(15, 0, 0), row(1, 1, -1), row(3, 0, 1), row(7, 0, 5), row(9, 0, 2), row(12, 3, 0)};
        for (int n = 0; n <= 3; n++) {
            EdgeCampaign x = Expect.campaign(1, rows);
            Expect.plant(x, new int[n]);
            finding(x, 0, 1, 5, n, n > 0 ? 5 : 0, n > 1 ? 5 : 0, n > 2 ? 5 : 0, 1, n, n);
        }
        EdgeCampaign four = Expect.campaign(1, rows);
        Expect.plant(four, 1, 2, 3, 4, 5, 6);
        finding(four, 0, 4, 4, 3, 5, 5, 5, 1, 6, 4);
        EdgeCampaign latest = Expect.campaign(1, row(9, 0, 2), row(0, 0, 0), row(9, 0, 4), row(0, 0, 0), row(9, 0, 6),
            row(0, 0, 0), row(1, 0, -1), row(13, 0, 0));
        Expect.same("trap 3", latest.plant(), 3);
        finding(latest, 0, 3, 7, 3, 5, 3, 1, 1, 0, 0);
        // The place behind 23 may be on the stack, though no instruction is there.
        int[][] full = new int[24][];
        java.util.Arrays.fill(full, row(0, 0, 0));
        full[0] = row(8, 0, 23);
        full[1] = row(11, 0, 0);
        full[23] = row(9, 0, 1);
        EdgeCampaign far = Expect.campaign(1, full);
        Expect.same("trap 2", Expect.plant(far, 1, 2), 2);
        finding(far, 0, 2, 1, 1, 24, 0, 0, 1, 2, 0);
    }

    private static void findingRefuses() {
        int[] wrong = {LEAST, -1, 9, 10, MOST};
        int[] none = {LEAST, -1, 1, 2, 7, 8, 9, MOST};
        EdgeCampaign x = Expect.campaign(1, row(12, 0, 0));
        Expect.same("finding(0, 0) of a new object", x.finding(0, 0), -1);
        x.plant();
        for (int which : wrong) {
            Expect.same("finding(0, " + which + ")", x.finding(0, which), -1);
        }
        for (int c : none) {
            for (int which = -1; which <= 9; which++) {
                Expect.same("finding(" + c + ", " + which + ")", x.finding(c, which), -1);
            }
        }
    }

    private static void findingByteRefuses() {
        EdgeCampaign x = Expect.campaign(1, row(1, 1, 1), row(2, 0, 1), row(7, 0, 4), row(12, 3, 0));
        Expect.same("of a new object", x.findingByte(0, false, 0), -1);
        Expect.same("of a new object", x.findingByte(0, true, 0), -1);
        // Two bytes or more trap: of the halves the first is taken, 255 0 30, and of its parts the second, 0 30.
        Expect.plant(x, 255, 0, 30, 40, 50, 60);
        int[] input = {255, 0, 30, 40, 50, 60};
        for (int k = 0; k < 6; k++) {
            Expect.same("findingByte(0, false, " + k + ")", x.findingByte(0, false, k), input[k]);
        }
        Expect.same("the shortest, byte 0", x.findingByte(0, true, 0), 0);
        Expect.same("the shortest, byte 1", x.findingByte(0, true, 1), 30);
        int[] wrong = {LEAST, -1, 6, 7, MOST};
        for (int k : wrong) {
            Expect.same("findingByte(0, false, " + k + ")", x.findingByte(0, false, k), -1);
            Expect.same("findingByte(0, true, " + k + ")", x.findingByte(0, true, k), -1);
        }
        for (int k = 2; k < 6; k++) {
            Expect.same("the shortest, byte " + k, x.findingByte(0, true, k), -1);
        }
        int[] none = {LEAST, -1, 1, 7, 8, MOST};
        for (int c : none) {
            Expect.same("findingByte(" + c + ", false, 0)", x.findingByte(c, false, 0), -1);
            Expect.same("findingByte(" + c + ", true, 0)", x.findingByte(c, true, 0), -1);
        }
        EdgeCampaign empty = Expect.campaign(1, row(12, 0, 0));
        empty.plant();
        Expect.same("of no bytes", empty.findingByte(0, false, 0), -1);
        Expect.same("of no bytes, the shortest", empty.findingByte(0, true, 0), -1);
    }

    private static void current(String what, EdgeCampaign x, int... due) {
        for (int which = 0; which < due.length; which++) {
            Expect.same(what + ": current(" + which + ")", x.current(which), due[which]);
        }
    }

    private static void currentAnswers() {
        EdgeCampaign x = new Probe(1, Probe.ONE_EDGE, new int[6]).behind(0);
        current("new", x, 0, 0, 2);
        Probe.fuzz(x, 97);
        current("the last trial of six bytes", x, 0, 97, 2);
        x.fuzz(1);
        current("96 trials are left out, and counted", x, 0, 96, 2);
        x.fuzz(20);
        current("ten times over", x, 0, 96, 2);
        EdgeCampaign none = new Probe(1, Probe.ONE_EDGE, new int[0]).behind(2);
        current("without bytes, nothing is left out", none, 0, 0, 2);
    }

    private static void currentRefuses() {
        EdgeCampaign x = Expect.campaign(1, row(15, 0, 0), row(12, 0, 0), row(8, 0, 3), row(0, 0, 0));
        current("new", x, -1, -1, -1);
        x.plant();
        current("a finding and no entry", x, -1, -1, -1);
        Expect.plant(x, 1);
        current("an entry", x, 0, 0, 2);
        int[] wrong = {LEAST, -1, 3, 4, MOST};
        for (int which : wrong) {
            Expect.same("current(" + which + ")", x.current(which), -1);
        }
    }

    private static void theNextIsTakenUpAtOnce() {
        EdgeCampaign x = new Probe(1, Probe.ONE_EDGE, new int[] {7}).behind(17);
        current("its last trial", x, 0, 17, 2);
        x.fuzz(1);
        current("in the same call", x, 0, 16, 2);
        // Two entries, and entry 0 has no bytes: three trials, then entry 1.
        EdgeCampaign two = looping(1);
        two.plant();
        Expect.plant(two, 1);
        two.fuzz(2);
        current("the joining is left", two, 0, 2, 2);
        two.fuzz(1);
        current("in the same call", two, 1, 0, 6);
        EdgeCampaign within = looping(1);
        within.plant();
        Expect.plant(within, 1);
        within.fuzz(5);
        current("within one call", within, 1, 2, 6);
    }

    private static void stateAnswers() {
        EdgeCampaign x = new Probe(99, Probe.ONE_EDGE, new int[] {1, 2, 3}).behind(48);
        Expect.same("behind 48 trials without draws", x.state(), 99);
        Expect.plant(x, 5);
        x.fuzz(0);
        Expect.all(x);
        Expect.same("nothing else draws", x.state(), 99);
        x.fuzz(1);
        Expect.same("behind a trial that draws", x.state() != 99, true);
        Expect.same("a state below 0 is answered as it is", new EdgeCampaign(-99).state(), -99);
        Expect.same("the least int", new EdgeCampaign(LEAST).state(), LEAST);
        EdgeCampaign known = new Probe(0, Probe.ONE_EDGE, new int[0]).behind(1);
        Expect.same("the third state from 1, with its highest bit", known.state(), (int) 2647435461L);
    }
}
