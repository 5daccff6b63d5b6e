/** 'Terms': INPUT and RUN, the text of the ops 0 to 15, TRAP and SIGN. */
final class RunBoundaries {
    private static final int LEAST = Integer.MIN_VALUE;
    private static final int MOST = Integer.MAX_VALUE;

    private RunBoundaries() {
    }

    static void hold() {
        Sentence.holds("An INPUT has 0 to 6 bytes, each 0 .. 255, at places 0, 1, ..", RunBoundaries::inputsHaveUpToSixBytes);
        Sentence.holds("A RUN of the program on an input: four registers r0 .. r3 and four memory words 0 .. 3, ints, are 0, "
            + "a STACK of at most three places is empty, and PC is 0.", RunBoundaries::everyRunBeginsAnew);
        Sentence.holds("When PC is not the place of an instruction, the run ENDS (outcome 0).",
            RunBoundaries::endsOutsideOfTheProgram);
        Sentence.holds("Else, when 64 STEPS were done, it HANGS (outcome 5).", RunBoundaries::hangsBehind64Steps);
        Sentence.holds("Else the instruction at PC is done as a step; HERE is its place, and PC becomes HERE + 1, "
            + "unless something else is said;", RunBoundaries::goesOnWithTheNextPlace);
        Sentence.holds("sums and products wrap;", RunBoundaries::sumsAndProductsWrap);
        Sentence.holds("ra is register a, rb register b:", RunBoundaries::registersMayBeTheSame);
        Sentence.holds("0 the run ENDS", RunBoundaries::op0);
        Sentence.holds("1 ra = b", RunBoundaries::op1);
        Sentence.holds("2 ra = the input's byte at place rb, -1 when there is none", RunBoundaries::op2);
        Sentence.holds("3 ra = ra + rb", RunBoundaries::op3);
        Sentence.holds("4 ra = ra - rb", RunBoundaries::op4);
        Sentence.holds("5 ra = ra * rb", RunBoundaries::op5);
        Sentence.holds("6 if ra is 0, PC becomes b", RunBoundaries::op6);
        Sentence.holds("7 if ra is less than 0, PC becomes b", RunBoundaries::op7);
        Sentence.holds("8 PC becomes b", RunBoundaries::op8);
        Sentence.holds("9 HERE + 1 is put on the stack and PC becomes b; when there are three already, TRAP 4",
            RunBoundaries::op9);
        Sentence.holds("10 PC becomes the latest place of the stack, which is taken off; when there is none, the run ENDS",
            RunBoundaries::op10);
        Sentence.holds("11 ra = ra / rb, cut towards zero, the least int divided by -1 being itself; when rb is 0, TRAP 2",
            RunBoundaries::op11);
        Sentence.holds("12 when ra is b, TRAP 1", RunBoundaries::op12);
        Sentence.holds("13 ra = the memory word rb;", RunBoundaries::op13);
        Sentence.holds("14 the memory word rb becomes ra;", RunBoundaries::op14);
        Sentence.holds("both TRAP 3 when rb is not 0 .. 3", RunBoundaries::ops13And14);
        Sentence.holds("15 ra = the number of bytes of the input", RunBoundaries::op15);
        Sentence.holds("A TRAP k ends the run with the outcome k; its SIGN is k, HERE, and the places on the stack.",
            RunBoundaries::signsAreToldApart);
        Sentence.holds("The step that ends or traps counts as one of the STEPS.", RunBoundaries::theLastStepCounts);
    }

    private static int[] row(int op, int a, int b) {
        return Expect.row(op, a, b);
    }

    private static void outcome(String what, int due, int[]... rows) {
        Expect.same(what, Expect.campaign(1, rows).plant(), due);
    }

    /** r0 = left op right, with r3 on the right; the trap 1 tells that it is as due. */
    private static void computes(int op, int left, int right, int due) {
        outcome(left + " op " + op + " " + right + " is " + due, 1,
            row(1, 0, left), row(1, 3, right), row(op, 0, 3), row(12, 0, due));
    }

    private static void inputsHaveUpToSixBytes() {
        int[][] rows = {row(15, 0, 0), row(12, 0, 0), row(12, 0, 6)};
        EdgeCampaign none = Expect.campaign(1, rows);
        Expect.same("no bytes", none.plant(), 1);
        Expect.same("no bytes", none.finding(0, 1), 1);
        EdgeCampaign six = Expect.campaign(1, rows);
        Expect.same("six bytes", Expect.plant(six, 0, 255, 0, 255, 0, 255), 1);
        Expect.same("six bytes", six.finding(0, 1), 2);
        EdgeCampaign seven = Expect.campaign(1, rows);
        for (int i = 0; i < 6; i++) {
            seven.feed(i);
        }
        Expect.same("a seventh byte", seven.feed(6), false);
        Expect.same("six of seven bytes", seven.plant(), 1);
        Expect.same("the last byte of six", six.findingByte(0, false, 5), 255);
        Expect.same("the first byte of six", six.findingByte(0, false, 0), 0);
    }

    private static void everyRunBeginsAnew() {
        for (int i = 0; i <= 3; i++) {
            outcome("r" + i + " is 0 at first", 1, row(12, i, 0));
            EdgeCampaign register = Expect.campaign(1, row(12, i, LEAST), row(1, i, LEAST));
            EdgeCampaign word = Expect.campaign(1, row(1, 1, i), row(13, 0, 1), row(12, 0, MOST), row(1, 0, MOST),
                row(14, 0, 1));
            for (int run = 0; run < 3; run++) {
                Expect.same("r" + i + " in run " + run, register.plant(), 0);
                Expect.same("word " + i + " in run " + run, word.plant(), 0);
            }
        }
        EdgeCampaign calls = Expect.campaign(1, row(9, 0, 1), row(9, 0, 2), row(9, 0, 3), row(0, 0, 0));
        Expect.same("three calls and no return", calls.plant(), 0);
        Expect.same("the stack is empty again", calls.plant(), 0);
        // With a byte it ends in a call. What stays on the stack would lead from 3 to 3 without bytes.
        EdgeCampaign left = Expect.campaign(1, row(15, 0, 0), row(6, 0, 3), row(9, 0, 4), row(10, 0, 0), row(0, 0, 0));
        Expect.plant(left, 1);
        left.plant();
        Expect.same("a return without a call", left.seen(3, 3), 0);
        // Traps when word 0 is 0, and makes it 1: each run of the shortening must trap too, and each trial.
        EdgeCampaign shortened = Expect.campaign(1, row(8, 0, 1), row(13, 2, 1), row(1, 0, 1), row(14, 0, 1), row(12, 2, 0));
        Expect.plant(shortened, 1, 2, 3, 4, 5, 6);
        Expect.same("the shortest", shortened.finding(0, 8), 0);
        shortened.fuzz(20);
        Expect.same("hits", shortened.finding(0, 6), 21);
    }

    private static void endsOutsideOfTheProgram() {
        outcome("an empty program", 0);
        outcome("behind the only one", 0, row(1, 0, 1));
        outcome("a jump to the place behind the last", 0, row(8, 0, 2), row(12, 0, 0));
        outcome("a jump to 23", 0, row(8, 0, 23), row(12, 0, 0));
        outcome("a jump to the last place", 1, row(8, 0, 1), row(12, 0, 0));
        outcome("a call out of the program", 0, row(9, 0, 2), row(12, 0, 0));
        int[][] full = new int[24][];
        java.util.Arrays.fill(full, row(12, 0, 0));
        full[0] = row(8, 0, 23);
        full[1] = row(10, 0, 0);
        full[23] = row(9, 0, 1);
        outcome("a return to place 24", 0, full);
        full[23] = row(1, 0, 0);
        outcome("from place 23 to 24", 0, full);
        EdgeCampaign sixtyFour = steps(64);
        Expect.same("outside behind 64 steps", sixtyFour.plant(), 0);
        Expect.same("no hang", sixtyFour.count(1), 0);
        Expect.same("its steps", sixtyFour.entry(0, 1), 64);
    }

    /** Does 63 or 64 steps and then comes to what is last. A loop does 3 steps a round and 1 besides. */
    private static EdgeCampaign steps(int steps, int[]... last) {
        int rounds = steps < 64 ? 19 : 21;
        int fillers = steps - 3 * rounds - 1;
        int[][] rows = new int[fillers + 5 + last.length][];
        for (int i = 0; i < fillers; i++) {
            rows[i] = row(1, 3, 1);
        }
        rows[fillers] = row(1, 0, rounds);
        rows[fillers + 1] = row(1, 1, -1);
        rows[fillers + 2] = row(3, 0, 1);
        rows[fillers + 3] = row(6, 0, fillers + 5);
        rows[fillers + 4] = row(8, 0, fillers + 2);
        System.arraycopy(last, 0, rows, fillers + 5, last.length);
        return Expect.campaign(1, rows);
    }

    private static void hangsBehind64Steps() {
        Expect.same("op 0 as step 64", steps(63, row(0, 0, 0)).plant(), 0);
        Expect.same("op 10 as step 64", steps(63, row(10, 0, 0)).plant(), 0);
        Expect.same("a trap as step 64", steps(63, row(12, 2, 0)).plant(), 1);
        Expect.same("the last instruction as step 64", steps(63, row(1, 2, 0)).plant(), 0);
        Expect.same("op 0 would be step 65", steps(64, row(0, 0, 0)).plant(), 5);
        Expect.same("op 10 would be step 65", steps(64, row(10, 0, 0)).plant(), 5);
        EdgeCampaign late = steps(64, row(12, 2, 0));
        Expect.same("a trap would be step 65", late.plant(), 5);
        Expect.same("its steps", late.entry(0, 1), 64);
        Expect.same("hangs", late.count(1), 1);
        Expect.same("findings", late.count(4), 0);
        Expect.same("a jump to itself", Expect.campaign(1, row(8, 0, 0)).plant(), 5);
    }

    private static void goesOnWithTheNextPlace() {
        EdgeCampaign x = Expect.campaign(1, row(1, 0, 1), row(15, 1, 0), row(3, 0, 0), row(12, 0, 1), row(14, 0, 1),
            row(13, 2, 1), row(12, 2, 2));
        Expect.same("six places, one behind the other", x.plant(), 1);
        Expect.same("HERE", x.finding(0, 1), 6);
    }

    private static void sumsAndProductsWrap() {
        computes(3, MOST, 1, LEAST);
        computes(3, LEAST, -1, MOST);
        computes(3, LEAST, LEAST, 0);
        computes(4, LEAST, 1, MOST);
        computes(4, MOST, -1, LEAST);
        computes(4, 0, LEAST, LEAST);
        computes(5, LEAST, -1, LEAST);
        computes(5, 65536, 65536, 0);
        computes(5, MOST, MOST, 1);
        computes(5, 65536, 32768, LEAST);
    }

    private static void registersMayBeTheSame() {
        outcome("r2 = r2 + r2", 1, row(1, 2, 21), row(3, 2, 2), row(12, 2, 42));
        outcome("r2 = r2 - r2", 1, row(1, 2, 21), row(4, 2, 2), row(12, 2, 0));
        outcome("r2 = r2 * r2", 1, row(1, 2, -3), row(5, 2, 2), row(12, 2, 9));
        outcome("r2 = r2 / r2", 1, row(1, 2, -3), row(11, 2, 2), row(12, 2, 1));
        outcome("r2 = byte r2", 1, row(1, 2, 9), row(2, 2, 2), row(12, 2, -1));
        outcome("r2 = word r2, which is r2", 1, row(1, 2, 3), row(14, 2, 2), row(13, 2, 2), row(12, 2, 3));
        for (int a = 0; a <= 3; a++) {
            for (int b = 0; b <= 3; b++) {
                int due = a == b ? 60 : 37;
                outcome("r" + a + " + r" + b, 1, row(1, a, 7), row(1, b, 30), row(3, a, b), row(12, a, due));
            }
        }
    }

    private static void op0() {
        outcome("the first one", 0, row(0, 0, 0), row(12, 0, 0));
        outcome("with a place on the stack", 0, row(9, 0, 2), row(12, 0, 0), row(0, 3, 0));
    }

    private static void op1() {
        int[] all = {LEAST, -1, 0, 1, MOST};
        for (int b : all) {
            outcome("r2 = " + b, 1, row(1, 2, 5), row(1, 2, b), row(12, 2, b));
        }
    }

    private static void reads(int place, int due, int... bytes) {
        EdgeCampaign x = Expect.campaign(1, row(1, 1, place), row(1, 0, 77), row(2, 0, 1), row(12, 0, due));
        Expect.same("byte " + place + " of " + bytes.length, Expect.plant(x, bytes), 1);
    }

    private static void op2() {
        reads(0, 0, 0);
        reads(0, 255, 255);
        reads(5, 255, 1, 2, 3, 4, 5, 255);
        reads(6, -1, 1, 2, 3, 4, 5, 6);
        reads(1, -1, 200);
        reads(0, -1);
        reads(-1, -1, 1, 2, 3, 4, 5, 6);
        reads(LEAST, -1, 1, 2, 3, 4, 5, 6);
        reads(MOST, -1, 1, 2, 3, 4, 5, 6);
        // A byte that an earlier, longer input had is not there any more.
        EdgeCampaign x = Expect.campaign(1, row(1, 1, 1), row(2, 0, 1), row(12, 0, -1));
        Expect.same("two bytes", Expect.plant(x, 3, 4), 0);
        Expect.same("one byte", Expect.plant(x, 3), 1);
    }

    private static void op3() {
        computes(3, 20, 22, 42);
        computes(3, -1, 1, 0);
        computes(3, MOST, 0, MOST);
    }

    private static void op4() {
        computes(4, 20, 22, -2);
        computes(4, 5, 5, 0);
        computes(4, LEAST, 0, LEAST);
    }

    private static void op5() {
        computes(5, -6, 7, -42);
        computes(5, LEAST, 0, 0);
        computes(5, LEAST, 1, LEAST);
    }

    private static void jumps(int op, int value, boolean due) {
        outcome("op " + op + " on " + value, due ? 2 : 1,
            row(1, 2, value), row(op, 2, 4), row(12, 0, 0), row(0, 0, 0), row(11, 0, 1));
    }

    private static void op6() {
        jumps(6, 0, true);
        jumps(6, 1, false);
        jumps(6, -1, false);
        jumps(6, LEAST, false);
        jumps(6, MOST, false);
    }

    private static void op7() {
        jumps(7, -1, true);
        jumps(7, LEAST, true);
        jumps(7, 0, false);
        jumps(7, 1, false);
        jumps(7, MOST, false);
    }

    private static void op8() {
        jumps(8, 0, true);
        jumps(8, 1, true);
        jumps(8, -1, true);
        outcome("back to place 0", 1, row(12, 0, 1), row(1, 0, 1), row(8, 3, 0));
        int[][] full = new int[24][];
        java.util.Arrays.fill(full, row(0, 0, 0));
        full[0] = row(8, 0, 23);
        full[23] = row(12, 0, 0);
        outcome("to place 23", 1, full);
    }

    private static void op9() {
        EdgeCampaign three = Expect.campaign(1, row(9, 0, 1), row(9, 0, 2), row(9, 0, 3), row(12, 0, 0));
        Expect.same("three calls", three.plant(), 1);
        Expect.same("three places", three.finding(0, 2), 3);
        EdgeCampaign four = Expect.campaign(1, row(9, 0, 1), row(9, 0, 2), row(9, 0, 3), row(9, 0, 4), row(12, 0, 0));
        Expect.same("a fourth call", four.plant(), 4);
        Expect.same("its HERE", four.finding(0, 1), 3);
        Expect.same("its places", four.finding(0, 2), 3);
        Expect.same("the latest", four.finding(0, 3), 3);
        outcome("five calls, each with its return", 1, row(9, 0, 6), row(9, 0, 6), row(9, 0, 6), row(9, 0, 6), row(9, 0, 6),
            row(12, 0, 0), row(10, 0, 0));
    }

    private static void op10() {
        outcome("with nothing on the stack", 0, row(10, 0, 0), row(12, 0, 0));
        // A call in a call: the latest place comes first, then the other, then there is none.
        EdgeCampaign x = Expect.campaign(1, row(9, 0, 3), row(10, 0, 0), row(12, 0, 0), row(9, 0, 5), row(10, 0, 0),
            row(10, 0, 0));
        Expect.same("more returns than calls", x.plant(), 0);
        Expect.same("the latest place", x.seen(5, 4), 1);
        Expect.same("the place below", x.seen(4, 1), 1);
        Expect.same("edges", x.count(5), 4);
        Expect.same("steps", x.entry(0, 1), 5);
    }

    private static void op11() {
        computes(11, 7, 2, 3);
        computes(11, -7, 2, -3);
        computes(11, 7, -2, -3);
        computes(11, -7, -2, 3);
        computes(11, -1, 2, 0);
        computes(11, LEAST, -1, LEAST);
        computes(11, LEAST, 1, LEAST);
        computes(11, LEAST, MOST, -1);
        computes(11, 0, LEAST, 0);
        outcome("5 / 0", 2, row(1, 0, 5), row(11, 0, 1), row(12, 3, 0));
        outcome("0 / 0", 2, row(11, 0, 0), row(12, 3, 0));
        outcome("the least int / 0", 2, row(1, 0, LEAST), row(11, 0, 1), row(12, 3, 0));
    }

    private static void op12() {
        int[] all = {LEAST, -1, 0, 1, MOST};
        for (int b : all) {
            outcome(b + " is " + b, 1, row(1, 2, b), row(12, 2, b));
            outcome(b + " is not one more", 0, row(1, 2, b), row(12, 2, b + 1));
            outcome(b + " is not one less", 0, row(1, 2, b), row(12, 2, b - 1));
        }
        outcome("not the number of a register", 0, row(1, 2, 5), row(1, 3, 5), row(12, 2, 3));
    }

    private static void op13() {
        for (int word = 0; word <= 3; word++) {
            outcome("word " + word + " is 0 at first", 1, row(1, 1, word), row(1, 0, 9), row(13, 0, 1), row(12, 0, 0));
            for (int other = 0; other <= 3; other++) {
                outcome("word " + other + " when " + word + " is 90", 1, row(1, 1, word), row(1, 0, 90), row(14, 0, 1),
                    row(1, 1, other), row(13, 2, 1), row(12, 2, other == word ? 90 : 0));
            }
        }
    }

    private static void op14() {
        int[] all = {LEAST, -1, MOST};
        for (int value : all) {
            for (int word = 0; word <= 3; word += 3) {
                outcome("word " + word + " becomes " + value, 1, row(1, 1, word), row(1, 0, value), row(14, 0, 1),
                    row(1, 0, 5), row(13, 2, 1), row(12, 2, value));
            }
        }
        outcome("a word becomes 0 again", 1, row(1, 0, 5), row(14, 0, 1), row(1, 0, 0), row(14, 0, 1), row(1, 2, 8),
            row(13, 2, 1), row(12, 2, 0));
    }

    private static void ops13And14() {
        int[] wrong = {LEAST, -4, -1, 4, 5, MOST};
        for (int op = 13; op <= 14; op++) {
            for (int word : wrong) {
                outcome("op " + op + " with word " + word, 3, row(1, 1, word), row(op, 0, 1), row(12, 3, 0));
            }
            for (int word = 0; word <= 3; word++) {
                outcome("op " + op + " with word " + word, 1, row(1, 1, word), row(op, 0, 1), row(12, 3, 0));
            }
        }
    }

    private static void op15() {
        for (int n = 0; n <= 6; n++) {
            EdgeCampaign x = Expect.campaign(1, row(1, 2, 50), row(15, 2, 0), row(12, 2, n));
            Expect.same(n + " bytes", Expect.plant(x, new int[n]), 1);
        }
    }

    private static void sign(EdgeCampaign x, int c, int... due) {
        for (int which = 0; which < due.length; which++) {
            Expect.same("finding(" + c + ", " + which + ")", x.finding(c, which), due[which]);
        }
    }

    private static void signsAreToldApart() {
        // Another place, the same trap and the same stack.
        EdgeCampaign places = Expect.campaign(1, row(15, 0, 0), row(12, 0, 0), row(12, 0, 1));
        places.plant();
        Expect.plant(places, 9);
        sign(places, 0, 1, 1, 0);
        sign(places, 1, 1, 2, 0);
        // The same two places on the stack, the other way round: 3 5 with bytes, 5 3 without.
        EdgeCampaign turned = Expect.campaign(1, row(15, 0, 0), row(6, 0, 4), row(9, 0, 6), row(0, 0, 0), row(9, 0, 6),
            row(0, 0, 0), row(12, 2, 1), row(1, 2, 1), row(6, 0, 2), row(8, 0, 4));
        Expect.plant(turned, 1);
        turned.plant();
        Expect.plant(turned, 2);
        Expect.same("findings", turned.count(4), 2);
        sign(turned, 0, 1, 6, 2, 5, 3, 0, 2);
        sign(turned, 1, 1, 6, 2, 3, 5, 0, 1);
        // The latest place is the same, and the one below it differs; then a third one is above both.
        EdgeCampaign below = Expect.campaign(1, row(15, 0, 0), row(6, 0, 4), row(9, 0, 6), row(0, 0, 0), row(9, 0, 6),
            row(0, 0, 0), row(9, 0, 8), row(0, 0, 0), row(12, 3, 0));
        Expect.plant(below, 1);
        below.plant();
        sign(below, 0, 1, 8, 2, 7, 3, 0, 1);
        sign(below, 1, 1, 8, 2, 7, 5, 0, 1);
        EdgeCampaign deepest = Expect.campaign(1, row(15, 0, 0), row(6, 0, 4), row(9, 0, 6), row(0, 0, 0), row(9, 0, 6),
            row(0, 0, 0), row(9, 0, 8), row(0, 0, 0), row(9, 0, 10), row(0, 0, 0), row(12, 3, 0));
        Expect.plant(deepest, 1);
        deepest.plant();
        sign(deepest, 0, 1, 10, 3, 9, 7, 3, 1);
        sign(deepest, 1, 1, 10, 3, 9, 7, 5, 1);
        // As many calls as bytes, from one place alone: only the number of places differs.
        EdgeCampaign deep = Expect.campaign(1, row(15, 0, 0), row(1, 1, -1), row(3, 0, 1), row(7, 0, 5), row(9, 0, 2),
            row(12, 3, 0));
        for (int n = 0; n <= 3; n++) {
            Expect.same(n + " calls", Expect.plant(deep, new int[n]), 1);
            sign(deep, n, 1, 5, n, n > 0 ? 5 : 0, n > 1 ? 5 : 0, n > 2 ? 5 : 0, 1);
        }
        Expect.same("a fourth call", Expect.plant(deep, 1, 2, 3, 4), 4);
        sign(deep, 4, 4, 4, 3, 5, 5, 5, 1);
        outcome("what is behind a trap is not done", 1, row(12, 0, 0), row(11, 0, 0));
        outcome("what is behind a trap is not done", 2, row(11, 0, 0), row(12, 0, 0));
        outcome("what is behind a trap is not done", 3, row(1, 0, 4), row(13, 0, 0), row(12, 1, 0));
    }

    private static void stepsOf(String what, int due, int[]... behindAJump) {
        int[][] rows = new int[behindAJump.length + 1][];
        rows[0] = row(8, 0, 1);
        System.arraycopy(behindAJump, 0, rows, 1, behindAJump.length);
        EdgeCampaign x = Expect.campaign(1, rows);
        x.plant();
        Expect.same("steps: " + what, x.entry(0, 1), due);
    }

    private static void theLastStepCounts() {
        stepsOf("op 0", 2, row(0, 0, 0), row(1, 0, 0));
        stepsOf("op 10 without a place", 2, row(10, 0, 0), row(1, 0, 0));
        stepsOf("trap 1", 2, row(12, 0, 0), row(1, 0, 0));
        stepsOf("trap 2", 2, row(11, 0, 0), row(1, 0, 0));
        stepsOf("trap 3", 3, row(1, 0, 4), row(13, 1, 0), row(1, 0, 0));
        stepsOf("trap 4", 5, row(9, 0, 1), row(1, 0, 0));
        stepsOf("a jump out of the program", 2, row(8, 0, 23), row(1, 0, 0));
        stepsOf("behind the last", 2, row(1, 0, 0));
    }
}
