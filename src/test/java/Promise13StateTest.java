public final class Promise13StateTest {
    public static void main(String[] args) {
        isTheSeedAtFirst();
        staysWithoutDraws();
        followsTheDraws();
        isTheSameForTheSameCalls();
        Expect.done();
    }

    private static EdgeCampaign oneEdge(int seed) {
        return Expect.campaign(seed, Expect.row(8, 0, 1), Expect.row(0, 0, 0));
    }

    private static void isTheSeedAtFirst() {
        Expect.same("seed 0", new EdgeCampaign(0).state(), 1);
        Expect.same("seed -5", new EdgeCampaign(-5).state(), -5);
        Expect.same("the least seed", new EdgeCampaign(Integer.MIN_VALUE).state(), Integer.MIN_VALUE);
    }

    private static void staysWithoutDraws() {
        EdgeCampaign x = oneEdge(99);
        Expect.plant(x, 1, 2, 3);
        Expect.all(x);
        x.fuzz(0);
        x.fuzz(21);
        x.fuzz(20);
        x.fuzz(20);
        x.fuzz(8);
        Expect.same("behind the 48 trials that do not draw", x.state(), 99);
        x.fuzz(1);
        Expect.same("behind one that draws", x.state() != 99, true);
    }

    /** The draws of seed 1 without bytes: 3 for the first trial, then 9, with a byte put in and changed. */
    private static void followsTheDraws() {
        EdgeCampaign x = oneEdge(1);
        x.plant();
        int state = 1;
        int[] draws = {3, 9};
        for (int n : draws) {
            x.fuzz(1);
            for (int i = 0; i < n; i++) {
                state ^= state << 13;
                state ^= state >>> 17;
                state ^= state << 5;
            }
            Expect.same("state", x.state(), state);
        }
        EdgeCampaign first = oneEdge(0);
        first.plant();
        first.fuzz(1);
        Expect.same("the known third value from 1", first.state(), (int) 2647435461L);
    }

    private static void isTheSameForTheSameCalls() {
        EdgeCampaign x = oneEdge(12345);
        EdgeCampaign y = oneEdge(12345);
        Expect.plant(x, 4);
        Expect.plant(y, 4);
        for (int i = 0; i < 10; i++) {
            x.fuzz(20);
            y.fuzz(20);
            Expect.same("state", x.state(), y.state());
        }
    }
}
