/** 'Terms': THE PROGRAM. */
final class ProgramBoundaries {
    private static final int LEAST = Integer.MIN_VALUE;
    private static final int MOST = Integer.MAX_VALUE;

    private ProgramBoundaries() {
    }

    static void hold() {
        Sentence.holds("THE PROGRAM is a row of at most 24 INSTRUCTIONS at the places 0, 1, ...",
            ProgramBoundaries::hasTwentyFourPlaces);
        Sentence.holds("An instruction has an OP 0 .. 15,", ProgramBoundaries::hasOps0To15);
        Sentence.holds("an a 0 .. 3, and a b, which is:", ProgramBoundaries::hasAs0To3);
        Sentence.holds("for the ops 2 to 5, 11, 13 and 14 the number 0 .. 3 of a register;",
            ProgramBoundaries::hasRegisters0To3);
        Sentence.holds("for 6 to 9 a place 0 .. 23;", ProgramBoundaries::hasPlaces0To23);
        Sentence.holds("for 1 and 12 any int;", ProgramBoundaries::hasAnyInt);
        Sentence.holds("for 0, 10 and 15 it is 0.", ProgramBoundaries::hasZeroAlone);
    }

    private static void taken(boolean due, int op, int a, int... bs) {
        for (int b : bs) {
            Expect.same("emit(" + op + ", " + a + ", " + b + ")", new EdgeCampaign(1).emit(op, a, b), due);
        }
    }

    private static void hasTwentyFourPlaces() {
        EdgeCampaign full = new EdgeCampaign(1);
        for (int place = 0; place <= 22; place++) {
            Expect.same("emit at " + place, full.emit(1, 1, place), true);
        }
        Expect.same("emit at 23", full.emit(12, 1, 22), true);
        Expect.same("emit at 24", full.emit(12, 1, 22), false);
        Expect.same("the last one is done", full.plant(), 1);
        Expect.same("its place", full.finding(0, 1), 23);
        EdgeCampaign refused = new EdgeCampaign(1);
        for (int place = 0; place <= 23; place++) {
            Expect.same("emit at " + place, refused.emit(1, 0, 5), true);
        }
        Expect.same("emit at 24", refused.emit(12, 0, 5), false);
        Expect.same("what was refused is not there", refused.plant(), 0);
        EdgeCampaign one = Expect.campaign(1, Expect.row(12, 0, 0));
        one.plant();
        Expect.same("the first place", one.finding(0, 1), 0);
    }

    private static void hasOps0To15() {
        int[] wrong = {LEAST, -1, 16, 17, 31, 32, MOST};
        for (int op : wrong) {
            taken(false, op, 0, 0, 1, -1, 24);
        }
        for (int op = 0; op <= 15; op++) {
            taken(true, op, 0, 0);
        }
    }

    private static void hasAs0To3() {
        int[] wrong = {LEAST, -1, 4, 5, MOST};
        for (int op = 0; op <= 15; op++) {
            for (int a = 0; a <= 3; a++) {
                taken(true, op, a, 0);
            }
            for (int a : wrong) {
                taken(false, op, a, 0);
            }
        }
    }

    private static void hasRegisters0To3() {
        int[] ops = {2, 3, 4, 5, 11, 13, 14};
        for (int op : ops) {
            taken(true, op, 3, 0, 1, 2, 3);
            taken(false, op, 3, LEAST, -1, 4, 5, 23, MOST);
        }
    }

    private static void hasPlaces0To23() {
        for (int op = 6; op <= 9; op++) {
            taken(true, op, 3, 0, 1, 4, 22, 23);
            taken(false, op, 3, LEAST, -1, 24, 25, MOST);
        }
    }

    private static void hasAnyInt() {
        int[] all = {LEAST, LEAST + 1, -1, 0, 1, 255, 256, MOST - 1, MOST};
        taken(true, 1, 3, all);
        taken(true, 12, 3, all);
        for (int b : all) {
            EdgeCampaign x = Expect.campaign(1, Expect.row(1, 3, b), Expect.row(12, 3, b));
            Expect.same("r3 is " + b, x.plant(), 1);
        }
    }

    private static void hasZeroAlone() {
        int[] ops = {0, 10, 15};
        for (int op : ops) {
            taken(true, op, 3, 0);
            taken(false, op, 3, LEAST, -1, 1, 2, 3, 23, MOST);
        }
    }
}
