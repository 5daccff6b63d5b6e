public final class Promise01NewObjectTest {
    public static void main(String[] args) {
        isEmpty();
        hasTheSeedAsState();
        hasAnEmptyProgram();
        hasAnEmptyDraft();
        isApartFromOthers();
        Expect.done();
    }

    private static void isEmpty() {
        EdgeCampaign x = new EdgeCampaign(7);
        for (int which = 0; which <= 6; which++) {
            Expect.same("count(" + which + ")", x.count(which), 0);
        }
        for (int which = 0; which <= 4; which++) {
            Expect.same("entry(0, " + which + ")", x.entry(0, which), -1);
        }
        for (int which = 0; which <= 8; which++) {
            Expect.same("finding(0, " + which + ")", x.finding(0, which), -1);
        }
        for (int which = 0; which <= 2; which++) {
            Expect.same("current(" + which + ")", x.current(which), -1);
        }
        for (int from = 0; from < 24; from++) {
            EdgeCampaign other = new EdgeCampaign(7);
            for (int to = 0; to < 24; to++) {
                Expect.same("seen(" + from + ", " + to + ")", other.seen(from, to), 0);
            }
        }
        Expect.same("NONE", EdgeCampaign.NONE, -1);
    }

    private static void hasTheSeedAsState() {
        int[] seeds = {1, -1, 7, 123456789, Integer.MIN_VALUE, Integer.MAX_VALUE};
        for (int seed : seeds) {
            Expect.same("state() of seed " + seed, new EdgeCampaign(seed).state(), seed);
        }
        Expect.same("state() of seed 0", new EdgeCampaign(0).state(), 1);
    }

    private static void hasAnEmptyProgram() {
        EdgeCampaign x = new EdgeCampaign(1);
        Expect.same("plant()", x.plant(), 0);
        Expect.same("count(0)", x.count(0), 1);
        Expect.same("count(3)", x.count(3), 0);
        EdgeCampaign full = new EdgeCampaign(1);
        for (int i = 0; i < 24; i++) {
            Expect.same("emit " + i, full.emit(0, 0, 0), true);
        }
        Expect.same("emit 24", full.emit(0, 0, 0), false);
    }

    private static void hasAnEmptyDraft() {
        EdgeCampaign x = Expect.campaign(1, Expect.row(15, 0, 0), Expect.row(12, 0, 0));
        Expect.same("plant()", x.plant(), 1);
        Expect.same("finding(0, 7)", x.finding(0, 7), 0);
    }

    private static void isApartFromOthers() {
        EdgeCampaign one = Expect.campaign(3, Expect.row(8, 0, 1), Expect.row(12, 0, 0));
        EdgeCampaign other = new EdgeCampaign(4);
        Expect.same("plant()", one.plant(), 1);
        one.fuzz(20);
        Expect.sameText("another object", Expect.all(other), Expect.all(new EdgeCampaign(4)));
    }
}
