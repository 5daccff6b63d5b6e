/** 'Terms': DRAWS. */
final class DrawBoundaries {
    private static final int LEAST = Integer.MIN_VALUE;

    private DrawBoundaries() {
    }

    static void hold() {
        Sentence.holds("DRAWS. The generator has a state x, an int that is not 0.", DrawBoundaries::isNeverZero);
        Sentence.holds("A DRAW: x = x ^ x << 13, then x ^ x >>> 17, then x ^ x << 5;", DrawBoundaries::shiftsAsTold);
        Sentence.holds("the draw is x without its highest bit (0 .. 2^31 - 1).", DrawBoundaries::leavesTheHighestBitOut);
        Sentence.holds("DRAW(n) is a draw's remainder by n.", DrawBoundaries::takesTheRemainder);
    }

    /** One entry, with the bytes that are given; its trials that draw begin behind 16 a byte. */
    private static EdgeCampaign atTheDrawing(int seed, int... bytes) {
        EdgeCampaign x = new Probe(seed, Probe.ONE_EDGE, bytes).behind(16 * bytes.length);
        Expect.same("nothing was drawn", x.state(), seed);
        return x;
    }

    private static void isNeverZero() {
        Expect.same("seed 0", new EdgeCampaign(0).state(), 1);
        int[] seeds = {0, 1, -1, LEAST, Integer.MAX_VALUE};
        for (int seed : seeds) {
            EdgeCampaign x = new Probe(seed, Probe.ONE_EDGE, new int[0]).behind(0);
            for (int i = 0; i < 240; i++) {
                x.fuzz(20);
                Expect.same("the state is 0", x.state() == 0, false);
            }
        }
    }

    /** Without bytes, a trial draws twice, if DRAW(4) is 0 and DRAW(5) is not 2. */
    private static boolean drawsTwice(Draws draws) {
        return draws.draw(4) == 0 && draws.draw(5) != 2;
    }

    private static void shiftsAsTold() {
        // From 1 the states are 270369, 67634689, 2647435461, 307599695, .. Seed 1 draws three times: k 4 and k 3.
        EdgeCampaign known = atTheDrawing(1);
        known.fuzz(1);
        Expect.same("the third state from 1", known.state(), (int) 2647435461L);
        // The least int becomes 0x80004000 by the second shift, which brings in no 1, and 0x80084000 by the third;
        // as a draw this is 0x84000, whose remainder by 4 is 0.
        EdgeCampaign least = atTheDrawing(LEAST);
        least.fuzz(1);
        Draws draws = new Draws(LEAST);
        Expect.same("the first draw is 0x84000", draws.draw(Integer.MAX_VALUE), 0x84000);
        boolean isTwice = drawsTwice(new Draws(LEAST));
        draws.draw(5);
        Expect.same("it draws twice", isTwice, true);
        Expect.same("the second state from the least int", least.state(), draws.x);
        int seed = LEAST;
        for (int i = 0; i < 30; i++) {
            seed = Draws.seedBehind(seed, DrawBoundaries::drawsTwice);
            EdgeCampaign x = atTheDrawing(seed);
            x.fuzz(1);
            Draws due = new Draws(seed);
            drawsTwice(due);
            Expect.same("the second state from " + seed, x.state(), due.x);
        }
    }

    /** With its highest bit set, x has other remainders as a number below 0, or as one of 32 bits without a sign. */
    private static void leavesTheHighestBitOut() {
        int seed = 0;
        for (int i = 0; i < 20; i++) {
            seed = Draws.seedBehind(seed, draws -> draws.draw(4) == 0 && draws.draw(5) == 2 && draws.x < 0
                && Math.floorMod(draws.x, 5) != 2 && Math.abs(draws.x % 5) != 2 && Integer.remainderUnsigned(draws.x, 5) != 2);
            EdgeCampaign x = atTheDrawing(seed);
            x.fuzz(1);
            Draws due = new Draws(seed);
            due.draw(4);
            due.draw(5);
            int b = due.draw(256);
            due.draw(1);
            Expect.same("k was 2, so four draws were made", x.state(), due.x);
            new Probe(seed, Probe.ONE_EDGE, new int[0]).executes("k 2", 0, b);
        }
    }

    private static void takesTheRemainder() {
        // By 1 the remainder is 0 whatever is drawn, but a draw is made.
        int one = Draws.seed(draws -> draws.draw(4) == 0 && draws.draw(5) == 3);
        EdgeCampaign x = atTheDrawing(one, 77);
        x.fuzz(1);
        Draws due = new Draws(one);
        due.draw(4);
        due.draw(5);
        due.draw(1);
        Expect.same("three draws", x.state(), due.x);
        new Probe(one, Probe.ONE_EDGE, new int[] {77}).executes("the only byte is taken out", 16);
        // By 256 the least remainder is 0, and the greatest 255.
        int[] values = {0, 255};
        for (int value : values) {
            int seed = Draws.seed(draws -> draws.draw(4) == 0 && draws.draw(5) == 1 && draws.draw(1) == 0
                && draws.draw(256) == value);
            new Probe(seed, Probe.ONE_EDGE, new int[] {77}).executes("the byte becomes " + value, 16, value);
        }
    }
}
