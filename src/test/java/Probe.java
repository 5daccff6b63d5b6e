/**
 * Looks at the inputs that trials execute, which no call tells: the same campaign is made again and again, each time
 * with a program that traps on another byte or number of bytes, and what traps in the trial in question counts a hit.
 */
final class Probe {
    /** One entry and no more, with an energy of 2. */
    static final int[][] ONE_EDGE = {{8, 0, 1}};
    /** Goes along 1-2 and 4-0 once a byte: entries are inputs of 0, 1, 2, 3, and of 4 to 6 bytes, five at most. */
    static final int[][] BY_LENGTH = {{2, 0, 3}, {7, 0, 5}, {1, 2, 1}, {3, 3, 2}, {8, 0, 0}};

    private final int seed;
    private final int[][] front;
    private final int[][] planted;

    /** The front of the program must end with the place behind it, and must not trap. */
    Probe(int seed, int[][] front, int[]... planted) {
        this.seed = seed;
        this.front = front;
        this.planted = planted;
    }

    /** The trial behind as many others executes the input that is due. */
    void executes(String what, int trialsBefore, int... due) {
        Expect.same(what + ": " + due.length + " bytes", hits(trialsBefore, lengthIs(due.length)), true);
        for (int k = 0; k < due.length; k++) {
            Expect.same(what + ": byte " + k + " is " + due[k], hits(trialsBefore, byteIs(k, due[k])), true);
        }
    }

    /** The campaign behind so many trials, with a program that does not trap. */
    EdgeCampaign behind(int trials) {
        return behind(trials, byteIs(0, 1000));
    }

    private boolean hits(int trialsBefore, int[][] back) {
        EdgeCampaign x = behind(trialsBefore, back);
        int before = Math.max(0, x.finding(0, 6));
        x.fuzz(1);
        return x.finding(0, 6) == before + 1;
    }

    private EdgeCampaign behind(int trials, int[][] back) {
        EdgeCampaign x = new EdgeCampaign(seed);
        append(x, front);
        append(x, back);
        for (int[] bytes : planted) {
            Expect.plant(x, bytes);
        }
        fuzz(x, trials);
        return x;
    }

    static void fuzz(EdgeCampaign x, int trials) {
        for (int left = trials; left > 0; left -= 20) {
            x.fuzz(Math.min(20, left));
        }
    }

    private static void append(EdgeCampaign x, int[][] rows) {
        for (int[] row : rows) {
            Expect.same("emit", x.emit(row[0], row[1], row[2]), true);
        }
    }

    private static int[][] byteIs(int k, int value) {
        return new int[][] {{1, 1, k}, {2, 0, 1}, {12, 0, value}};
    }

    private static int[][] lengthIs(int n) {
        return new int[][] {{1, 1, 0}, {15, 0, 0}, {12, 0, n}};
    }
}
