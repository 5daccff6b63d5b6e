public final class Promise05FuzzTest {
    public static void main(String[] args) {
        refusesWrongNumbers();
        makesNoneWithoutEntries();
        makesAsManyAsAsked();
        takesTheTrialsOfAByteInOrder();
        takesTheTrialsOfTwoBytesInOrder();
        leavesTheDraftAlone();
        drawsChanges();
        joinsWithAPartner();
        Expect.done();
    }

    private static int[] row(int op, int a, int b) {
        return Expect.row(op, a, b);
    }

    private static void refusesWrongNumbers() {
        int[] wrong = {Integer.MIN_VALUE, -20, -1, 0, 21, 22, Integer.MAX_VALUE};
        EdgeCampaign x = Expect.campaign(5, row(8, 0, 1), row(0, 0, 0));
        for (int n : wrong) {
            Expect.same("fuzz(" + n + ") without entries", x.fuzz(n), -1);
        }
        Expect.plant(x, 3);
        String before = Expect.all(x);
        for (int n : wrong) {
            Expect.same("fuzz(" + n + ")", x.fuzz(n), -1);
        }
        Expect.sameText("nothing changed", Expect.all(x), before);
    }

    private static void makesNoneWithoutEntries() {
        EdgeCampaign x = Expect.campaign(5, row(12, 0, 0));
        for (int n = 1; n <= 20; n++) {
            Expect.same("fuzz(" + n + ") of a new object", x.fuzz(n), 0);
        }
        Expect.same("executions", x.count(0), 0);
        Expect.same("a trap without edges", x.plant(), 1);
        Expect.same("fuzz(20) with a finding alone", x.fuzz(20), 0);
        Expect.same("executions", x.count(0), 1);
        Expect.same("state", x.state(), 5);
    }

    private static void makesAsManyAsAsked() {
        EdgeCampaign x = Expect.campaign(5, row(8, 0, 1), row(0, 0, 0));
        Expect.plant(x, 1, 2);
        int due = 1;
        for (int n = 1; n <= 20; n++) {
            Expect.same("fuzz(" + n + ")", x.fuzz(n), n);
            due += n;
            Expect.same("executions", x.count(0), due);
        }
        EdgeCampaign one = Expect.campaign(5, row(8, 0, 1), row(0, 0, 0));
        Expect.plant(one, 1, 2);
        for (int i = 1; i < due; i++) {
            one.fuzz(1);
        }
        Expect.sameText("one by one", Expect.all(one), Expect.all(x));
    }

    private static int[] trialsOf(int b) {
        return new int[] {
            b ^ 1, b ^ 2, b ^ 4, b ^ 8, b ^ 16, b ^ 32, b ^ 64, b ^ 128,
            b + 1 & 255, b - 1 & 255, b + 16 & 255, b - 16 & 255, 0, 127, 128, 255
        };
    }

    /** The hits of a program that traps when byte place is value, trial by trial. */
    private static void hits(int place, int value, int[] input, int[] trials) {
        EdgeCampaign x = Expect.campaign(9, row(8, 0, 1), row(1, 1, place), row(2, 0, 1), row(12, 0, value));
        Expect.plant(x, input);
        int due = input[place] == value ? 1 : 0;
        for (int t = 0; t < trials.length; t++) {
            x.fuzz(1);
            due += trials[t] == value ? 1 : 0;
            Expect.same("hits of " + value + " behind trial " + t, Math.max(0, x.finding(0, 6)), due);
        }
        Expect.same("no draws so far", x.state(), 9);
    }

    private static void takesTheTrialsOfAByteInOrder() {
        int[] bytes = {5, 0, 255, 127, 250, 8};
        for (int b : bytes) {
            for (int value : trialsOf(b)) {
                hits(0, value, new int[] {b}, trialsOf(b));
            }
        }
    }

    private static void takesTheTrialsOfTwoBytesInOrder() {
        int[] input = {5, 250};
        int[] first = new int[32];
        int[] second = new int[32];
        java.util.Arrays.fill(first, 5);
        java.util.Arrays.fill(second, 250);
        System.arraycopy(trialsOf(5), 0, first, 0, 8);
        System.arraycopy(trialsOf(5), 8, first, 16, 4);
        System.arraycopy(trialsOf(5), 12, first, 24, 4);
        System.arraycopy(trialsOf(250), 0, second, 8, 8);
        System.arraycopy(trialsOf(250), 8, second, 20, 4);
        System.arraycopy(trialsOf(250), 12, second, 28, 4);
        for (int value : first) {
            hits(0, value, input, first);
        }
        for (int value : second) {
            hits(1, value, input, second);
        }
    }

    private static void leavesTheDraftAlone() {
        EdgeCampaign x = Expect.campaign(9, row(8, 0, 1), row(15, 0, 0), row(12, 0, 2));
        x.plant();
        x.feed(7);
        x.fuzz(20);
        x.feed(8);
        int hits = Math.max(0, x.finding(0, 6));
        Expect.same("two bytes", x.plant(), 1);
        Expect.same("its hits", x.finding(0, 6), hits + 1);
    }

    /**
     * Entry 0 has no bytes and an energy of 2; the seed is 1. Trial 0: 270369 says 2 times, 67634689 k 4 and
     * 499951813 k 3, which do nothing without bytes. Trial 1: 307599695 says 4 times, 251205585 k 0 and 745495504
     * k 4 do nothing, 632435482 says k 2, 435756210 the byte 178 and 2005365029 place 0, 768615284 k 4,
     * 509608651 adds 11 - 8 and 1495045943 says place 0: the input is 181.
     */
    private static void drawsChanges() {
        EdgeCampaign x = Expect.campaign(1, row(8, 0, 1), row(2, 0, 1), row(12, 0, 181));
        x.plant();
        x.fuzz(1);
        Expect.same("findings behind trial 0", x.count(4), 0);
        Expect.same("state behind trial 0", x.state(), 499951813 | Integer.MIN_VALUE);
        x.fuzz(1);
        Expect.same("findings behind trial 1", x.count(4), 1);
        Expect.same("number of bytes", x.finding(0, 7), 1);
        Expect.same("the byte", x.findingByte(0, false, 0), 181);
        Expect.same("state behind trial 1", x.state() & Integer.MAX_VALUE, 1495045943);
        Expect.same("finished", x.entry(0, 3), 1);
    }

    /** The partner's draw by 1 and the cut's draw by 1 are 0 whatever comes: the joined input is that of entry 1. */
    private static void joinsWithAPartner() {
        EdgeCampaign x = Expect.campaign(1, row(8, 0, 1), row(2, 0, 1), row(7, 0, 5), row(12, 0, 9),
            row(0, 0, 0), row(0, 0, 0));
        Expect.same("no bytes", x.plant(), 0);
        Expect.same("byte 9", Expect.plant(x, 9), 1);
        Expect.same("energy", x.current(2), 4);
        x.fuzz(4);
        Expect.same("entry", x.current(0), 0);
        Expect.same("trial", x.current(1), 4);
        Expect.same("entries", x.count(3), 2);
        int hits = x.finding(0, 6);
        int drawn = nextState(nextState(x.state()));
        x.fuzz(1);
        Expect.same("hits", x.finding(0, 6), hits + 1);
        Expect.same("state", x.state(), drawn);
        Expect.same("next entry", x.current(0), 1);
    }

    private static int nextState(int x) {
        int y = x ^ x << 13;
        int z = y ^ y >>> 17;
        return z ^ z << 5;
    }
}
