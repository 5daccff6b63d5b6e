public final class Promise03FeedTest {
    public static void main(String[] args) {
        takesBytesAlone();
        takesSix();
        keepsTheOrder();
        startsAnewBehindPlant();
        Expect.done();
    }

    /** Always traps, so that the executed input can be read from the finding. */
    private static EdgeCampaign trapping() {
        return Expect.campaign(1, Expect.row(12, 0, 0));
    }

    private static void takesBytesAlone() {
        int[] wrong = {Integer.MIN_VALUE, -256, -1, 256, 257, Integer.MAX_VALUE};
        EdgeCampaign x = trapping();
        for (int b : wrong) {
            Expect.same("feed(" + b + ")", x.feed(b), false);
        }
        Expect.same("feed(0)", x.feed(0), true);
        Expect.same("feed(256)", x.feed(256), false);
        Expect.same("feed(255)", x.feed(255), true);
        x.plant();
        Expect.same("number of bytes", x.finding(0, 7), 2);
        Expect.same("byte 0", x.findingByte(0, false, 0), 0);
        Expect.same("byte 1", x.findingByte(0, false, 1), 255);
        for (int b = 0; b <= 255; b++) {
            Expect.same("feed(" + b + ")", new EdgeCampaign(1).feed(b), true);
        }
    }

    private static void takesSix() {
        EdgeCampaign x = trapping();
        for (int i = 0; i < 6; i++) {
            Expect.same("feed " + i, x.feed(10 + i), true);
        }
        Expect.same("feed 6", x.feed(99), false);
        Expect.same("feed 7", x.feed(0), false);
        x.plant();
        Expect.same("number of bytes", x.finding(0, 7), 6);
    }

    private static void keepsTheOrder() {
        EdgeCampaign x = trapping();
        Expect.plant(x, 9, 8, 7, 6, 5, 4);
        for (int k = 0; k < 6; k++) {
            Expect.same("byte " + k, x.findingByte(0, false, k), 9 - k);
        }
    }

    private static void startsAnewBehindPlant() {
        EdgeCampaign x = Expect.campaign(1, Expect.row(15, 0, 0), Expect.row(12, 0, 6), Expect.row(12, 0, 0));
        Expect.same("six bytes", Expect.plant(x, 1, 2, 3, 4, 5, 6), 1);
        Expect.same("no bytes", Expect.plant(x), 1);
        Expect.same("six bytes again", Expect.plant(x, 1, 2, 3, 4, 5, 6), 1);
        Expect.same("hits with six", x.finding(0, 6), 2);
        Expect.same("hits with none", x.finding(1, 6), 1);
    }
}
