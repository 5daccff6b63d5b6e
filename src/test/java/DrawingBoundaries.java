import java.util.ArrayList;
import java.util.List;
import java.util.function.Predicate;

/** 'Terms': TRIALS, the ones that draw. */
final class DrawingBoundaries {
    private static final int SEEDS_EACH = 4;
    private static final int[] SIX = {0, 255, 7, 248, 128, 127};
    private static final int[] FIVE = {11, 12, 13, 14, 15};

    private DrawingBoundaries() {
    }

    static void hold() {
        Sentence.holds("then as many as the energy says: DRAW(4) + 1 times something is done; each time k is DRAW(5).",
            DrawingBoundaries::drawsAsOftenAsSaid);
        Sentence.holds("k 0: bit DRAW(8) of byte DRAW(n) is turned.", DrawingBoundaries::k0);
        Sentence.holds("1: byte DRAW(n) becomes DRAW(256).", DrawingBoundaries::k1);
        Sentence.holds("2: a byte DRAW(256) is put in before place DRAW(n + 1), so that it is at that place then.",
            DrawingBoundaries::k2);
        Sentence.holds("3: byte DRAW(n) is taken out.", DrawingBoundaries::k3);
        Sentence.holds("4: DRAW(16) - 8 is added to byte DRAW(n) (wrapping).", DrawingBoundaries::k4);
        Sentence.holds("Here n is the number of bytes at that time, and draws are made in the order in which the text names "
            + "them.", DrawingBoundaries::countsTheBytesOfThatTime);
        Sentence.holds("When n is 0, k 0, 1, 3 and 4 do nothing more;", DrawingBoundaries::doesNothingWithoutBytes);
        Sentence.holds("when n is 6, k 2 does nothing more.", DrawingBoundaries::putsNothingIntoSix);
    }

    /** The first trial that draws does so from the seed on; behind tells all the draws that it must make. */
    private static void executes(String what, int seed, int[] bytes, Draws behind, int... due) {
        Probe probe = new Probe(seed, Probe.ONE_EDGE, bytes);
        int first = 16 * bytes.length;
        probe.executes(what + ", seed " + seed, first, due);
        Expect.same(what + ", seed " + seed + ": the state", probe.behind(first + 1).state(), behind.x);
    }

    private static Draws begun(int seed, int... remainders) {
        Draws draws = new Draws(seed);
        for (int n : remainders) {
            draws.draw(n);
        }
        return draws;
    }

    private static int[] with(int[] input, int k, int value) {
        int[] changed = input.clone();
        changed[k] = value;
        return changed;
    }

    private static int[] toArray(List<Integer> bytes) {
        return bytes.stream().mapToInt(b -> b).toArray();
    }

    private static int[] inserted(int[] input, int place, int b) {
        List<Integer> bytes = new ArrayList<>();
        for (int value : input) {
            bytes.add(value);
        }
        bytes.add(place, b);
        return toArray(bytes);
    }

    private static int[] without(int[] input, int place) {
        List<Integer> bytes = new ArrayList<>();
        for (int k = 0; k < input.length; k++) {
            if (k != place) {
                bytes.add(input[k]);
            }
        }
        return toArray(bytes);
    }

    private interface Case {
        void test(int seed);
    }

    private static void forSeeds(Predicate<Draws> wanted, Case test) {
        int seed = 0;
        for (int i = 0; i < SEEDS_EACH; i++) {
            seed = Draws.seedBehind(seed, wanted);
            test.test(seed);
        }
    }

    private static void drawsAsOftenAsSaid() {
        int[] edges = {1, 7, 8, 9};
        for (int many : edges) {
            EdgeCampaign x = new EdgeCampaign(3);
            for (int place = 0; place < many; place++) {
                x.emit(8, 0, place + 1);
            }
            x.emit(0, 0, 0);
            x.plant();
            int energy = 2 * Math.min(8, many);
            for (int t = 0; t < energy; t++) {
                Expect.same(many + " edges: trial", x.current(1), t);
                Expect.same(many + " edges: finished", x.entry(0, 3), 0);
                int state = x.state();
                x.fuzz(1);
                Expect.same(many + " edges: trial " + t + " draws", x.state() != state, true);
            }
            Expect.same(many + " edges: finished behind " + energy, x.entry(0, 3), 1);
        }
        forSeeds(d -> d.draw(4) == 0 && d.draw(5) == 2, seed -> {
            Draws d = begun(seed, 4, 5);
            int b = d.draw(256);
            d.draw(1);
            executes("once", seed, new int[0], d, b);
        });
        forSeeds(d -> d.draw(4) == 3 && putsIn(d, 0) && putsIn(d, 1) && putsIn(d, 2) && putsIn(d, 3), seed -> {
            Draws d = begun(seed, 4);
            int[] due = new int[0];
            for (int n = 0; n < 4; n++) {
                d.draw(5);
                int b = d.draw(256);
                due = inserted(due, d.draw(n + 1), b);
            }
            executes("four times", seed, new int[0], d, due);
        });
    }

    private static boolean putsIn(Draws d, int n) {
        return d.draw(5) == 2 && d.draw(256) >= 0 && d.draw(n + 1) >= 0;
    }

    private static void k0() {
        int[] bits = {0, 7};
        int[] places = {0, 1, 5};
        for (int bit : bits) {
            for (int place : places) {
                forSeeds(d -> d.draw(4) == 0 && d.draw(5) == 0 && d.draw(8) == bit && d.draw(6) == place, seed -> {
                    int due = SIX[place] ^ 1 << bit;
                    executes("bit " + bit + " of byte " + place, seed, SIX, begun(seed, 4, 5, 8, 6), with(SIX, place, due));
                });
            }
            forSeeds(d -> d.draw(4) == 0 && d.draw(5) == 0 && d.draw(8) == bit, seed ->
                executes("bit " + bit + " of the only byte", seed, new int[] {255}, begun(seed, 4, 5, 8, 1), 255 ^ 1 << bit));
        }
    }

    private static void k1() {
        int[] values = {0, 1, 254, 255};
        int[] places = {0, 5};
        for (int value : values) {
            for (int place : places) {
                forSeeds(d -> d.draw(4) == 0 && d.draw(5) == 1 && d.draw(6) == place && d.draw(256) == value, seed ->
                    executes("byte " + place + " becomes " + value, seed, SIX, begun(seed, 4, 5, 6, 256),
                        with(SIX, place, value)));
            }
        }
    }

    private static void k2() {
        int[] values = {0, 255};
        for (int value : values) {
            for (int place = 0; place <= 5; place++) {
                int before = place;
                forSeeds(d -> d.draw(4) == 0 && d.draw(5) == 2 && d.draw(256) == value && d.draw(6) == before, seed ->
                    executes(value + " before place " + before, seed, FIVE, begun(seed, 4, 5, 256, 6),
                        inserted(FIVE, before, value)));
            }
            forSeeds(d -> d.draw(4) == 0 && d.draw(5) == 2 && d.draw(256) == value, seed ->
                executes(value + " into nothing", seed, new int[0], begun(seed, 4, 5, 256, 1), value));
        }
    }

    private static void k3() {
        for (int place = 0; place <= 5; place++) {
            int out = place;
            forSeeds(d -> d.draw(4) == 0 && d.draw(5) == 3 && d.draw(6) == out, seed ->
                executes("without byte " + out, seed, SIX, begun(seed, 4, 5, 6), without(SIX, out)));
        }
        forSeeds(d -> d.draw(4) == 0 && d.draw(5) == 3, seed ->
            executes("without the only byte", seed, new int[] {9}, begun(seed, 4, 5, 1)));
    }

    private static void adds(int drawn, int place, int due) {
        forSeeds(d -> d.draw(4) == 0 && d.draw(5) == 4 && d.draw(16) == drawn && d.draw(6) == place, seed ->
            executes((drawn - 8) + " to byte " + SIX[place], seed, SIX, begun(seed, 4, 5, 16, 6), with(SIX, place, due)));
    }

    /** The bytes are 0, 255, 7, 248, 128 and 127. */
    private static void k4() {
        adds(0, 0, 248);
        adds(7, 0, 255);
        adds(8, 0, 0);
        adds(9, 0, 1);
        adds(15, 1, 6);
        adds(9, 1, 0);
        adds(8, 1, 255);
        adds(0, 1, 247);
        adds(0, 2, 255);
        adds(1, 2, 0);
        adds(15, 3, 255);
        adds(0, 4, 120);
        adds(15, 5, 134);
    }

    private static void countsTheBytesOfThatTime() {
        int[] one = {9};
        forSeeds(d -> d.draw(4) == 1 && d.draw(5) == 3 && d.draw(1) == 0 && d.draw(5) == 0, seed ->
            executes("the only byte out, then k 0", seed, one, begun(seed, 4, 5, 1, 5)));
        forSeeds(d -> d.draw(4) == 1 && d.draw(5) == 2 && d.draw(256) >= 0 && d.draw(6) >= 0 && d.draw(5) == 2, seed -> {
            Draws d = begun(seed, 4, 5);
            int b = d.draw(256);
            int[] due = inserted(FIVE, d.draw(6), b);
            d.draw(5);
            executes("a sixth byte in, then k 2", seed, FIVE, d, due);
        });
        forSeeds(d -> d.draw(4) == 1 && d.draw(5) == 3 && d.draw(6) >= 0 && d.draw(5) == 2, seed -> {
            Draws d = begun(seed, 4, 5);
            int[] due = without(SIX, d.draw(6));
            d.draw(5);
            int b = d.draw(256);
            due = inserted(due, d.draw(6), b);
            executes("one of six out, then k 2", seed, SIX, d, due);
        });
        forSeeds(d -> d.draw(4) == 1 && d.draw(5) == 2 && d.draw(256) >= 0 && d.draw(1) == 0 && d.draw(5) == 1, seed -> {
            Draws d = begun(seed, 4, 5, 256, 1, 5, 1);
            executes("a first byte in, then k 1", seed, new int[0], d, d.draw(256));
        });
        forSeeds(d -> d.draw(4) == 1 && d.draw(5) == 2 && d.draw(256) >= 0 && d.draw(2) >= 0 && d.draw(5) == 3
            && d.draw(2) == 1, seed -> {
            Draws d = begun(seed, 4, 5);
            int b = d.draw(256);
            int[] due = inserted(one, d.draw(2), b);
            d.draw(5);
            executes("a second byte in, then the second out", seed, one, d, without(due, d.draw(2)));
        });
        // Each draw moves the state: another order of the same two draws would lead to other bytes.
        forSeeds(d -> d.draw(4) == 0 && d.draw(5) == 1 && d.draw(6) == 2 && d.draw(256) == 200, seed ->
            executes("the place is drawn first", seed, SIX, begun(seed, 4, 5, 6, 256), with(SIX, 2, 200)));
        forSeeds(d -> d.draw(4) == 0 && d.draw(5) == 4 && d.draw(16) == 15 && d.draw(6) == 4, seed ->
            executes("the amount is drawn first", seed, SIX, begun(seed, 4, 5, 16, 6), with(SIX, 4, 135)));
    }

    private static void doesNothingWithoutBytes() {
        int[] kinds = {0, 1, 3, 4};
        for (int k : kinds) {
            forSeeds(d -> d.draw(4) == 0 && d.draw(5) == k, seed ->
                executes("k " + k, seed, new int[0], begun(seed, 4, 5)));
            forSeeds(d -> d.draw(4) == 3 && d.draw(5) == k && d.draw(5) == k && d.draw(5) == k && d.draw(5) == k, seed ->
                executes("k " + k + ", four times", seed, new int[0], begun(seed, 4, 5, 5, 5, 5)));
            forSeeds(d -> d.draw(4) == 1 && d.draw(5) == k && d.draw(5) == 2, seed -> {
                Draws d = begun(seed, 4, 5, 5);
                int b = d.draw(256);
                d.draw(1);
                executes("k " + k + ", then k 2", seed, new int[0], d, b);
            });
        }
    }

    private static void putsNothingIntoSix() {
        forSeeds(d -> d.draw(4) == 0 && d.draw(5) == 2, seed ->
            executes("k 2", seed, SIX, begun(seed, 4, 5), SIX));
        forSeeds(d -> d.draw(4) == 3 && d.draw(5) == 2 && d.draw(5) == 2 && d.draw(5) == 2 && d.draw(5) == 2, seed ->
            executes("k 2, four times", seed, SIX, begun(seed, 4, 5, 5, 5, 5), SIX));
        forSeeds(d -> d.draw(4) == 1 && d.draw(5) == 2 && d.draw(5) == 3, seed -> {
            Draws d = begun(seed, 4, 5, 5);
            executes("k 2, then k 3", seed, SIX, d, without(SIX, d.draw(6)));
        });
    }
}
