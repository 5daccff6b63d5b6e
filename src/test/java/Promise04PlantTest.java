public final class Promise04PlantTest {
    private static final int LEAST = Integer.MIN_VALUE;
    private static final int MOST = Integer.MAX_VALUE;

    public static void main(String[] args) {
        computes();
        readsBytes();
        usesMemory();
        startsEveryRunAnew();
        ends();
        jumps();
        callsAndReturns();
        trapsOnAFullStack();
        hangsBehindSixtyFourSteps();
        countsEdgesIntoBuckets();
        countsNoEdgeOutOfTheProgram();
        keepsOnlyNews();
        losesWhatHasNoRoom();
        emptiesTheDraft();
        Expect.done();
    }

    private static int[] row(int op, int a, int b) {
        return Expect.row(op, a, b);
    }

    /** Traps with 1 if r0 = left op right is due, with 0 in another case. */
    private static void computed(String what, int op, int left, int right, int due) {
        EdgeCampaign x = Expect.campaign(1, row(1, 0, left), row(1, 3, right), row(op, 0, 3), row(12, 0, due));
        Expect.same(what, x.plant(), 1);
    }

    private static void computes() {
        computed("sum", 3, 20, 22, 42);
        computed("sum wraps", 3, MOST, 1, LEAST);
        computed("difference", 4, 20, 22, -2);
        computed("difference wraps", 4, LEAST, 1, MOST);
        computed("product", 5, -6, 7, -42);
        computed("product wraps", 5, 65536, 65536, 0);
        computed("product wraps too", 5, LEAST, -1, LEAST);
        computed("quotient", 11, 7, 2, 3);
        computed("quotient is cut towards zero", 11, -7, 2, -3);
        computed("quotient by less than zero", 11, 7, -2, -3);
        computed("least by -1", 11, LEAST, -1, LEAST);
        EdgeCampaign other = Expect.campaign(1, row(1, 0, 4), row(12, 0, 5), row(12, 1, 4));
        Expect.same("not equal", other.plant(), 0);
        EdgeCampaign zero = Expect.campaign(1, row(1, 0, 4), row(11, 0, 2), row(12, 0, 4));
        Expect.same("division by zero", zero.plant(), 2);
        Expect.same("its place", zero.finding(0, 1), 1);
        EdgeCampaign self = Expect.campaign(1, row(1, 2, 9), row(4, 2, 2), row(12, 2, 0));
        Expect.same("a register minus itself", self.plant(), 1);
    }

    private static void read(String what, int place, int due, int... bytes) {
        EdgeCampaign x = Expect.campaign(1, row(1, 1, place), row(1, 0, 77), row(2, 0, 1), row(12, 0, due));
        Expect.same(what, Expect.plant(x, bytes), 1);
    }

    private static void readsBytes() {
        read("first byte", 0, 200, 200, 5);
        read("second byte", 1, 5, 200, 5);
        read("sixth byte", 5, 255, 0, 1, 2, 3, 4, 255);
        read("behind the last", 2, -1, 200, 5);
        read("behind six", 6, -1, 0, 1, 2, 3, 4, 5);
        read("before the first", -1, -1, 200, 5);
        read("least place", LEAST, -1, 200, 5);
        read("greatest place", MOST, -1, 200, 5);
        read("of no bytes", 0, -1);
        for (int n = 0; n <= 6; n++) {
            EdgeCampaign x = Expect.campaign(1, row(15, 2, 0), row(12, 2, n));
            Expect.same("length " + n, Expect.plant(x, new int[n]), 1);
        }
    }

    private static void usesMemory() {
        for (int word = 0; word <= 3; word++) {
            EdgeCampaign x = Expect.campaign(1, row(1, 0, word), row(1, 1, 90), row(14, 1, 0),
                row(13, 2, 0), row(12, 2, 90));
            Expect.same("word " + word, x.plant(), 1);
        }
        int[] wrong = {LEAST, -1, 4, MOST};
        for (int word : wrong) {
            EdgeCampaign load = Expect.campaign(1, row(1, 0, word), row(13, 1, 0));
            Expect.same("load from word " + word, load.plant(), 3);
            EdgeCampaign save = Expect.campaign(1, row(1, 0, word), row(14, 1, 0));
            Expect.same("save to word " + word, save.plant(), 3);
            Expect.same("its place", save.finding(0, 1), 1);
        }
        EdgeCampaign fresh = Expect.campaign(1, row(1, 1, 5), row(13, 1, 0), row(12, 1, 0));
        Expect.same("a fresh word", fresh.plant(), 1);
    }

    private static void startsEveryRunAnew() {
        // Traps with 1 at place 2 when anything is left of the run before.
        EdgeCampaign x = Expect.campaign(1, row(13, 1, 2), row(3, 0, 1), row(12, 0, 9), row(1, 3, 9),
            row(14, 3, 2), row(3, 0, 3), row(9, 0, 7));
        Expect.same("first", x.plant(), 0);
        Expect.same("second", x.plant(), 0);
        Expect.same("findings", x.count(4), 0);
        EdgeCampaign deep = Expect.campaign(1, row(15, 0, 0), row(6, 0, 3), row(9, 0, 4), row(10, 0, 0), row(12, 0, 1));
        Expect.same("ends in a call", Expect.plant(deep, 1), 1);
        Expect.same("returns from an empty stack", deep.plant(), 0);
    }

    private static void ends() {
        Expect.same("op 0", Expect.campaign(1, row(0, 0, 0), row(12, 0, 0)).plant(), 0);
        Expect.same("op 10 with nothing on the stack", Expect.campaign(1, row(10, 0, 0), row(12, 0, 0)).plant(), 0);
        Expect.same("behind the last", Expect.campaign(1, row(1, 0, 1)).plant(), 0);
        Expect.same("far behind the last", Expect.campaign(1, row(8, 0, 23), row(12, 0, 0)).plant(), 0);
        EdgeCampaign x = Expect.campaign(1, row(8, 0, 1), row(0, 0, 0));
        x.plant();
        Expect.same("steps with op 0", x.entry(0, 1), 2);
        EdgeCampaign y = Expect.campaign(1, row(8, 0, 1), row(10, 0, 0));
        y.plant();
        Expect.same("steps with op 10", y.entry(0, 1), 2);
        Expect.same("edges with op 10", y.count(5), 1);
        EdgeCampaign z = Expect.campaign(1, row(8, 0, 1), row(12, 0, 0));
        z.plant();
        Expect.same("steps with a trap", z.entry(0, 1), 2);
        EdgeCampaign out = Expect.campaign(1, row(8, 0, 1), row(1, 0, 0));
        out.plant();
        Expect.same("steps to behind the last", out.entry(0, 1), 2);
    }

    private static void jumped(String what, int op, int value, boolean due) {
        EdgeCampaign x = Expect.campaign(1, row(1, 2, value), row(op, 2, 4), row(12, 0, 0), row(0, 0, 0), row(11, 0, 1));
        Expect.same(what, x.plant(), due ? 2 : 1);
        Expect.same(what + ": edge when it jumps", x.seen(1, 4), due ? 1 : 0);
        Expect.same(what + ": edge when it does not", x.seen(1, 2), due ? 0 : 1);
    }

    private static void jumps() {
        jumped("6 on 0", 6, 0, true);
        jumped("6 on 1", 6, 1, false);
        jumped("6 on -1", 6, -1, false);
        jumped("7 on -1", 7, -1, true);
        jumped("7 on the least", 7, LEAST, true);
        jumped("7 on 0", 7, 0, false);
        jumped("7 on 1", 7, 1, false);
        jumped("8 on 1", 8, 1, true);
        EdgeCampaign next = Expect.campaign(1, row(6, 0, 1), row(0, 0, 0));
        next.plant();
        Expect.same("edge of a jump to the next place", next.seen(0, 1), 1);
    }

    private static void callsAndReturns() {
        EdgeCampaign x = Expect.campaign(1, row(9, 0, 3), row(9, 0, 3), row(0, 0, 0), row(3, 0, 1), row(10, 0, 0));
        Expect.same("two calls", x.plant(), 0);
        Expect.same("first call", x.seen(0, 3), 1);
        Expect.same("second call", x.seen(1, 3), 1);
        Expect.same("first return", x.seen(4, 1), 1);
        Expect.same("second return", x.seen(4, 2), 1);
        Expect.same("edges", x.entry(0, 2), 4);
        Expect.same("steps", x.entry(0, 1), 7);
        EdgeCampaign nested = Expect.campaign(1, row(9, 0, 2), row(12, 0, 0), row(9, 0, 4), row(10, 0, 0), row(10, 0, 0));
        Expect.same("a call in a call", nested.plant(), 1);
        Expect.same("inner return", nested.seen(4, 3), 1);
        Expect.same("outer return", nested.seen(3, 1), 1);
        Expect.same("places left on the stack", nested.finding(0, 2), 0);
    }

    private static void trapsOnAFullStack() {
        EdgeCampaign x = Expect.campaign(1, row(9, 0, 0));
        Expect.same("the fourth call", x.plant(), 4);
        Expect.same("steps", x.entry(0, 1), 4);
        Expect.same("times", x.seen(0, 0), 4);
        Expect.same("its places", x.finding(0, 2), 3);
        EdgeCampaign three = Expect.campaign(1, row(9, 0, 1), row(9, 0, 2), row(9, 0, 3), row(12, 0, 0));
        Expect.same("three calls", three.plant(), 1);
        Expect.same("three places", three.finding(0, 2), 3);
    }

    /** fillers, then a loop: 3 rounds + 1 steps with all but the fillers. */
    private static EdgeCampaign looping(int fillers, int rounds, int[]... last) {
        int[][] rows = new int[fillers + 5 + last.length][];
        for (int i = 0; i < fillers; i++) {
            rows[i] = row(1, 3, 1);
        }
        rows[fillers] = row(1, 1, -1);
        rows[fillers + 1] = row(1, 0, rounds);
        rows[fillers + 2] = row(3, 0, 1);
        rows[fillers + 3] = row(6, 0, fillers + 5);
        rows[fillers + 4] = row(8, 0, fillers + 2);
        System.arraycopy(last, 0, rows, fillers + 5, last.length);
        return Expect.campaign(1, rows);
    }

    private static void hangsBehindSixtyFourSteps() {
        EdgeCampaign ending = looping(0, 21);
        Expect.same("ends behind 64 steps", ending.plant(), 0);
        Expect.same("its steps", ending.entry(0, 1), 64);
        Expect.same("no hang", ending.count(1), 0);
        EdgeCampaign one = looping(1, 21);
        Expect.same("one step more", one.plant(), 5);
        Expect.same("its steps", one.entry(0, 1), 64);
        Expect.same("a hang", one.count(1), 1);
        Expect.same("an instruction more", looping(0, 21, row(0, 0, 0)).plant(), 5);
        Expect.same("a trap as step 64", looping(2, 20, row(12, 0, 0)).plant(), 1);
        Expect.same("a trap as step 65", looping(3, 20, row(12, 0, 0)).plant(), 5);
        Expect.same("op 0 as step 64", looping(2, 20, row(0, 0, 0)).plant(), 0);
        EdgeCampaign last = looping(0, 21, row(0, 0, 0));
        last.plant();
        Expect.same("the edge of step 64", last.seen(3, 5), 1);
        EdgeCampaign jump = Expect.campaign(1, row(8, 0, 0));
        Expect.same("jumps on the spot", jump.plant(), 5);
        Expect.same("oftener than 15 times", jump.seen(0, 0), 32);
        Expect.same("findings of a hang", jump.count(4), 0);
    }

    /** Goes along 4-2 and 3-4 as often as the first byte says. */
    private static EdgeCampaign byteLoop() {
        return Expect.campaign(1, row(2, 0, 1), row(1, 2, -1), row(3, 0, 2), row(7, 0, 5), row(8, 0, 2), row(0, 0, 0));
    }

    private static void countsEdgesIntoBuckets() {
        int[] times = {0, 1, 2, 3, 4, 5, 6, 7, 8, 9, 14, 15, 16, 17, 19, 255};
        int[] due = {0, 1, 2, 4, 8, 8, 8, 8, 16, 16, 16, 16, 32, 32, 32, 32};
        for (int i = 0; i < times.length; i++) {
            EdgeCampaign x = byteLoop();
            Expect.plant(x, times[i]);
            Expect.same("bucket of " + times[i], x.seen(4, 2), due[i]);
        }
    }

    private static void countsNoEdgeOutOfTheProgram() {
        int[] ops = {6, 8, 9};
        for (int op : ops) {
            EdgeCampaign x = Expect.campaign(1, row(op, 0, 1));
            Expect.same("op " + op + " out of the program", x.plant(), 0);
            Expect.same("edges", x.count(5), 0);
            Expect.same("entries", x.count(3), 0);
        }
        EdgeCampaign stays = Expect.campaign(1, row(7, 0, 0));
        stays.plant();
        Expect.same("no jump, but behind the last", stays.count(5), 0);
        EdgeCampaign back = Expect.campaign(1, row(8, 0, 2), row(10, 0, 0), row(9, 0, 1));
        Expect.same("returns to behind the last", back.plant(), 0);
        Expect.same("edges", back.count(5), 2);
        EdgeCampaign plain = Expect.campaign(1, row(1, 0, 1), row(3, 0, 0), row(15, 0, 0), row(14, 0, 1));
        Expect.same("no jumps", plain.plant(), 0);
        Expect.same("edges", plain.count(5), 0);
    }

    private static void keepsOnlyNews() {
        EdgeCampaign x = byteLoop();
        int[] bytes = {4, 7, 5, 2, 3, 0, 1, 1, 20, 16, 255, 8};
        int[] entries = {1, 1, 1, 2, 3, 3, 4, 4, 5, 5, 5, 6};
        for (int i = 0; i < bytes.length; i++) {
            Expect.plant(x, bytes[i]);
            Expect.same("entries behind byte " + bytes[i], x.count(3), entries[i]);
        }
        Expect.same("executions", x.count(0), bytes.length);
        Expect.same("hangs", x.count(1), 2);
        Expect.same("lost", x.count(2), 0);
    }

    /** A loop by the first byte, then calls of a place that traps in call number (second byte). */
    private static EdgeCampaign manyWays() {
        int[][] rows = new int[24][];
        rows[0] = row(2, 0, 1);
        rows[1] = row(1, 2, -1);
        rows[2] = row(3, 0, 2);
        rows[3] = row(7, 0, 5);
        rows[4] = row(8, 0, 2);
        rows[5] = row(1, 1, 1);
        rows[6] = row(2, 0, 1);
        for (int i = 7; i <= 20; i++) {
            rows[i] = row(9, 0, 21);
        }
        rows[21] = row(3, 0, 2);
        rows[22] = row(12, 0, 0);
        rows[23] = row(10, 0, 0);
        return Expect.campaign(1, rows);
    }

    private static void counted(String what, EdgeCampaign x, int lost, int entries, int findings) {
        Expect.same(what + ": lost", x.count(2), lost);
        Expect.same(what + ": entries", x.count(3), entries);
        Expect.same(what + ": findings", x.count(4), findings);
    }

    private static void losesWhatHasNoRoom() {
        EdgeCampaign x = manyWays();
        int[] loops = {0, 1, 2, 3, 4, 8, 16};
        for (int i = 0; i < loops.length; i++) {
            Expect.same("a trap", Expect.plant(x, loops[i], 1), 1);
            counted("loop " + loops[i], x, 0, i + 1, 1);
        }
        for (int call = 2; call <= 8; call++) {
            Expect.same("a trap", Expect.plant(x, 0, call), 1);
            counted("call " + call, x, 0, 6 + call, call);
        }
        Expect.plant(x, 0, 9);
        counted("call 9", x, 1, 15, 8);
        Expect.plant(x, 0, 10);
        counted("call 10", x, 2, 16, 8);
        int edges = x.count(5);
        Expect.same("a trap that is lost", Expect.plant(x, 0, 11), 1);
        counted("call 11, lost twice", x, 4, 16, 8);
        Expect.plant(x, 0, 11);
        counted("call 11 again", x, 6, 16, 8);
        Expect.same("edges", x.count(5), edges);
        Expect.same("a lost edge", x.seen(17, 21), 0);
        Expect.plant(x, 0, 8);
        counted("call 8 again", x, 6, 16, 8);
        Expect.same("hits of call 8", x.finding(7, 6), 2);
        Expect.same("hits of call 1", x.finding(0, 6), 7);
        Expect.plant(x, 0, 10);
        counted("call 10 again", x, 7, 16, 8);
        Expect.same("a hang without news", Expect.plant(x, 19, 255), 5);
        counted("the hang", x, 7, 16, 8);
        Expect.same("executions", x.count(0), 21);
    }

    private static void emptiesTheDraft() {
        EdgeCampaign x = Expect.campaign(1, row(15, 0, 0), row(12, 0, 2));
        Expect.same("two bytes", Expect.plant(x, 1, 2), 1);
        Expect.same("none", x.plant(), 0);
        Expect.same("executions", x.count(0), 2);
    }
}
