import java.util.function.Predicate;

/** The draws that the document tells, so that a test can look for a seed that leads to what it wants. */
final class Draws {
    private static final int MOST_SEEDS = 5_000_000;

    int x;

    Draws(int seed) {
        x = seed;
    }

    /** With 64 bits, in which nothing wraps unseen. */
    int draw(int n) {
        long y = x & 0xffffffffL;
        y = (y ^ y << 13) & 0xffffffffL;
        y = y ^ y >> 17;
        y = (y ^ y << 5) & 0xffffffffL;
        x = (int) y;
        return (int) (y % 0x80000000L % n);
    }

    /** The first seed behind the one given, going up, whose draws are as wanted. */
    static int seedBehind(int behind, Predicate<Draws> wanted) {
        for (int seed = behind + 1; seed <= behind + MOST_SEEDS; seed++) {
            if (seed != 0 && wanted.test(new Draws(seed))) {
                return seed;
            }
        }
        Expect.same("a seed was found", false, true);
        return 1;
    }

    static int seed(Predicate<Draws> wanted) {
        return seedBehind(0, wanted);
    }
}
