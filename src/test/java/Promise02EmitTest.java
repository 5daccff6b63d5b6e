public final class Promise02EmitTest {
    private static final int[] B_VALUES = {
        Integer.MIN_VALUE, -24, -1, 0, 1, 2, 3, 4, 5, 22, 23, 24, 25, 255, Integer.MAX_VALUE
    };

    public static void main(String[] args) {
        takesWhatTheTermsSay();
        refusesWrongA();
        refusesWrongOps();
        takesTwentyFour();
        refusesAfterAnExecution();
        refusedInstructionsAreNotThere();
        Expect.done();
    }

    private static void takesWhatTheTermsSay() {
        for (int op = 0; op <= 15; op++) {
            for (int b : B_VALUES) {
                boolean due = switch (op) {
                    case 0, 10, 15 -> b == 0;
                    case 1, 12 -> true;
                    case 6, 7, 8, 9 -> b >= 0 && b <= 23;
                    default -> b >= 0 && b <= 3;
                };
                for (int a = 0; a <= 3; a++) {
                    Expect.same("emit(" + op + ", " + a + ", " + b + ")", new EdgeCampaign(1).emit(op, a, b), due);
                }
            }
        }
    }

    private static void refusesWrongA() {
        int[] wrong = {Integer.MIN_VALUE, -1, 4, 5, Integer.MAX_VALUE};
        for (int op = 0; op <= 15; op++) {
            for (int a : wrong) {
                Expect.same("emit(" + op + ", " + a + ", 0)", new EdgeCampaign(1).emit(op, a, 0), false);
            }
        }
    }

    private static void refusesWrongOps() {
        int[] wrong = {Integer.MIN_VALUE, -16, -1, 16, 17, 31, Integer.MAX_VALUE};
        for (int op : wrong) {
            for (int b : B_VALUES) {
                Expect.same("emit(" + op + ", 0, " + b + ")", new EdgeCampaign(1).emit(op, 0, b), false);
            }
        }
    }

    private static void takesTwentyFour() {
        EdgeCampaign x = new EdgeCampaign(1);
        for (int i = 0; i < 23; i++) {
            Expect.same("emit " + i, x.emit(1, 1, i), true);
            Expect.same("wrong emit behind " + i, x.emit(0, 0, 1), false);
        }
        Expect.same("emit 23", x.emit(12, 1, 22), true);
        Expect.same("emit 24", x.emit(1, 1, 99), false);
        Expect.same("plant()", x.plant(), 1);
        Expect.same("finding(0, 1)", x.finding(0, 1), 23);
    }

    private static void refusesAfterAnExecution() {
        EdgeCampaign x = Expect.campaign(1, Expect.row(1, 0, 5));
        Expect.same("feed(3)", x.feed(3), true);
        Expect.same("fuzz(3)", x.fuzz(3), 0);
        Expect.same("emit behind feed and fuzz", x.emit(1, 0, 6), true);
        x.plant();
        Expect.same("emit behind plant", x.emit(12, 0, 6), false);
        Expect.same("plant()", x.plant(), 0);
    }

    private static void refusedInstructionsAreNotThere() {
        EdgeCampaign x = new EdgeCampaign(1);
        Expect.same("emit(8, 0, 24)", x.emit(8, 0, 24), false);
        Expect.same("emit(12, 4, 0)", x.emit(12, 4, 0), false);
        Expect.same("emit(1, 0, 9)", x.emit(1, 0, 9), true);
        Expect.same("emit(16, 0, 0)", x.emit(16, 0, 0), false);
        Expect.same("emit(12, 0, 9)", x.emit(12, 0, 9), true);
        Expect.same("plant()", x.plant(), 1);
        Expect.same("finding(0, 1)", x.finding(0, 1), 1);
    }
}
