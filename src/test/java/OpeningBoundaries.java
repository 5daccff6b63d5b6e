/** 'What it is': what a campaign does on the whole, and how many calls an object has. */
final class OpeningBoundaries {
    private static final int CALLS = 512;

    private OpeningBoundaries() {
    }

    static void hold() {
        Sentence.holds("Looks for inputs on which a small program traps:", OpeningBoundaries::findsATrap);
        Sentence.holds("it changes inputs that are kept, in a fixed order and by draws,", OpeningBoundaries::drawsComeLater);
        Sentence.holds("keeps what reaches new jumps or reaches them oftener,", OpeningBoundaries::keepsWhatIsNew);
        Sentence.holds("sorts the traps,", OpeningBoundaries::sortsTraps);
        Sentence.holds("and makes the inputs that trap as short as it can.", OpeningBoundaries::shortens);
        Sentence.holds("An object is used for at most 512 calls after it has been made; what later calls answer is free.",
            OpeningBoundaries::theLastCallsAnswer);
    }

    private static int[] row(int op, int a, int b) {
        return Expect.row(op, a, b);
    }

    /** The byte 7 becomes 6 in trial 0, 5 in trial 1: nothing that was planted traps. */
    private static void findsATrap() {
        EdgeCampaign x = Expect.campaign(1, row(8, 0, 1), row(2, 0, 1), row(12, 0, 5));
        Expect.same("plant", Expect.plant(x, 7), 0);
        Expect.same("findings", x.count(4), 0);
        Expect.same("fuzz", x.fuzz(1), 1);
        Expect.same("findings behind trial 0", x.count(4), 0);
        Expect.same("fuzz", x.fuzz(1), 1);
        Expect.same("findings behind trial 1", x.count(4), 1);
        Expect.same("its byte", x.findingByte(0, false, 0), 5);
        Expect.same("the entry's byte", x.entryByte(0, 0), 7);
    }

    private static void drawsComeLater() {
        EdgeCampaign x = Expect.campaign(9, row(8, 0, 1), row(0, 0, 0));
        Expect.plant(x, 3);
        Expect.same("fuzz", x.fuzz(16), 16);
        Expect.same("state behind the fixed order", x.state(), 9);
        Expect.same("fuzz", x.fuzz(1), 1);
        Expect.same("the state is as it was, behind a draw", x.state() == 9, false);
    }

    /** Goes along 1-3 without bytes, else along 1-2 and 2-3, and then along 8-4 as often as the first byte says. */
    private static void keepsWhatIsNew() {
        EdgeCampaign x = Expect.campaign(1, row(15, 3, 0), row(6, 3, 3), row(8, 0, 3), row(2, 0, 1), row(3, 0, 2),
            row(6, 0, 9), row(1, 2, -1), row(7, 0, 9), row(8, 0, 4), row(0, 0, 0));
        Expect.same("without bytes", Expect.plant(x), 0);
        Expect.same("entries", x.count(3), 1);
        Expect.same("without bytes, again", Expect.plant(x), 0);
        Expect.same("entries", x.count(3), 1);
        Expect.same("new jumps", Expect.plant(x, 1), 0);
        Expect.same("entries", x.count(3), 2);
        Expect.same("the same jumps, oftener", Expect.plant(x, 2), 0);
        Expect.same("entries", x.count(3), 3);
        Expect.same("the same jumps, as often", Expect.plant(x, 2, 5), 0);
        Expect.same("entries", x.count(3), 3);
    }

    /** 8 divided by the first byte: trap 2 at place 3; by 1: trap 1 at place 4. */
    private static void sortsTraps() {
        EdgeCampaign x = Expect.campaign(1, row(2, 0, 1), row(1, 2, 8), row(8, 0, 3), row(11, 2, 0), row(12, 2, 8));
        Expect.same("by 0", Expect.plant(x, 0), 2);
        Expect.same("by 1", Expect.plant(x, 1), 1);
        Expect.same("by 0", Expect.plant(x, 0, 9), 2);
        Expect.same("by 2", Expect.plant(x, 2), 0);
        Expect.same("findings", x.count(4), 2);
        Expect.same("trap", x.finding(0, 0), 2);
        Expect.same("hits", x.finding(0, 6), 2);
        Expect.same("trap", x.finding(1, 0), 1);
        Expect.same("hits", x.finding(1, 6), 1);
    }

    /** Traps when the first byte is 5: this byte alone is enough, and none is too few. */
    private static void shortens() {
        EdgeCampaign x = Expect.campaign(1, row(2, 0, 1), row(12, 0, 5));
        Expect.same("plant", Expect.plant(x, 5, 1, 2, 3, 4, 5), 1);
        Expect.same("bytes", x.finding(0, 7), 6);
        Expect.same("bytes of the shortest", x.finding(0, 8), 1);
        Expect.same("its byte", x.findingByte(0, true, 0), 5);
    }

    /** As many trials as an object can make: they all count, and the 512th call answers. */
    private static void theLastCallsAnswer() {
        EdgeCampaign x = new EdgeCampaign(3);
        Reference due = new Reference(3);
        int[][] rows = {{2, 0, 3}, {7, 0, 5}, {1, 2, 1}, {3, 3, 2}, {8, 0, 0}, {12, 3, 4}};
        int calls = 0;
        for (int[] row : rows) {
            Expect.same("emit", x.emit(row[0], row[1], row[2]), due.emit(row[0], row[1], row[2]));
            calls++;
        }
        Expect.same("plant", x.plant(), due.plant());
        calls++;
        for (; calls < CALLS - 4; calls++) {
            Expect.same("fuzz", x.fuzz(20), due.fuzz(20));
        }
        Expect.same("executions", x.count(0), due.count(0));
        Expect.same("hits", x.finding(0, 6), due.finding(0, 6));
        Expect.same("finished", x.entry(4, 3), due.entry(4, 3));
        Expect.same("the 512th call", x.state(), due.x);
        Expect.same("executions of 501 calls", due.count(0), 1 + 501 * 20);
        Expect.same("the run traps", due.finding(0, 6) > 0, true);
        Expect.same("the last entry was finished", due.entry(4, 3) > 0, true);
    }
}
