/** Counts the answers that are not as due, and sets up campaigns. */
final class Expect {
    private static final int MOST_TOLD = 100;
    private static final int PLACES = 8;

    private static int asked = 0;
    private static int wrong = 0;

    private Expect() {
    }

    static void same(String what, long got, long due) {
        asked++;
        if (got != due) {
            tellWrong(what + " answered " + got + ", due is " + due);
        }
    }

    static void same(String what, boolean got, boolean due) {
        same(what, got ? 1 : 0, due ? 1 : 0);
    }

    static void sameText(String what, String got, String due) {
        asked++;
        if (!got.equals(due)) {
            tellWrong(what + ":\n  got " + got + "\n  due " + due);
        }
    }

    /** One fault may make thousands of answers wrong: the first ones are enough. */
    private static void tellWrong(String text) {
        wrong++;
        if (wrong <= MOST_TOLD) {
            System.out.println(text);
        }
    }

    static int asked() {
        return asked;
    }

    static int wrong() {
        return wrong;
    }

    static void done() {
        System.out.println(asked + " answers, " + wrong + " not as due");
        if (wrong != 0 || asked == 0) {
            System.exit(1);
        }
    }

    /** A new campaign with a program, an instruction (op, a, b) a row. */
    static EdgeCampaign campaign(int seed, int[]... rows) {
        EdgeCampaign x = new EdgeCampaign(seed);
        for (int[] row : rows) {
            same("emit(" + row[0] + ", " + row[1] + ", " + row[2] + ")", x.emit(row[0], row[1], row[2]), true);
        }
        return x;
    }

    static int[] row(int op, int a, int b) {
        return new int[] {op, a, b};
    }

    static int plant(EdgeCampaign x, int... bytes) {
        for (int b : bytes) {
            same("feed(" + b + ")", x.feed(b), true);
        }
        return x.plant();
    }

    /**
     * What can be asked of a campaign whose program has eight instructions at most, so that two moments or two
     * campaigns can be compared. The document lets an object answer 512 calls: these are less than a hundred, 12 for
     * each entry and 23 for each finding.
     */
    static String all(EdgeCampaign x) {
        StringBuilder text = new StringBuilder();
        for (int which = 0; which <= 6; which++) {
            text.append(" n").append(x.count(which));
        }
        for (int which = 0; which <= 2; which++) {
            text.append(" t").append(x.current(which));
        }
        text.append(" x").append(x.state());
        for (int e = 0; e < x.count(3); e++) {
            text.append("\n  entry ").append(e).append(':');
            for (int which = 0; which <= 4; which++) {
                text.append(' ').append(x.entry(e, which));
            }
            for (int k = 0; k < 7; k++) {
                text.append(" b").append(x.entryByte(e, k));
            }
        }
        for (int c = 0; c < x.count(4); c++) {
            text.append("\n  finding ").append(c).append(':');
            for (int which = 0; which <= 8; which++) {
                text.append(' ').append(x.finding(c, which));
            }
            for (int k = 0; k < 7; k++) {
                text.append(" i").append(x.findingByte(c, false, k)).append(" s").append(x.findingByte(c, true, k));
            }
        }
        text.append("\n  seen:");
        for (int from = 0; from < PLACES; from++) {
            for (int to = 0; to < PLACES; to++) {
                if (x.seen(from, to) != 0) {
                    text.append(' ').append(from).append('-').append(to).append('=').append(x.seen(from, to));
                }
            }
        }
        return text.toString();
    }
}
