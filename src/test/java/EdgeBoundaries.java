/** 'Terms': EDGES and BUCKET. */
final class EdgeBoundaries {
    private EdgeBoundaries() {
    }

    static void hold() {
        Sentence.holds("EDGES. When an instruction with one of the ops 6 to 10 was done,", EdgeBoundaries::ops6To10Alone);
        Sentence.holds("did not end the run or trap,", EdgeBoundaries::notWhenItEndsOrTraps);
        Sentence.holds("and PC is then the place of an instruction, the run has gone along the edge from HERE to PC",
            EdgeBoundaries::notOutOfTheProgram);
        Sentence.holds("(also when PC is HERE + 1).", EdgeBoundaries::alsoToTheNextPlace);
        Sentence.holds("How often a run goes along an edge falls into a BUCKET: 0 once, 1 twice, 2 three times, "
            + "3 four to 7 times, 4 eight to 15 times, 5 oftener.", EdgeBoundaries::sixBuckets);
        Sentence.holds("A PAIR is an edge and a bucket.", EdgeBoundaries::anotherBucketIsAnotherPair);
    }

    private static int[] row(int op, int a, int b) {
        return Expect.row(op, a, b);
    }

    private static EdgeCampaign planted(int[]... rows) {
        EdgeCampaign x = Expect.campaign(1, rows);
        x.plant();
        return x;
    }

    private static void edges(String what, EdgeCampaign x, int due) {
        Expect.same(what + ": seen edges", x.count(5), due);
        Expect.same(what + ": entries", x.count(3), due > 0 ? 1 : 0);
    }

    private static void ops6To10Alone() {
        edges("all the others", planted(row(1, 0, 1), row(2, 1, 0), row(3, 1, 0), row(4, 1, 0), row(5, 1, 0), row(11, 1, 0),
            row(12, 1, 99), row(14, 1, 0), row(13, 1, 0), row(15, 1, 0), row(0, 0, 0)), 0);
        edges("trap 1", planted(row(12, 0, 0), row(0, 0, 0)), 0);
        edges("trap 2", planted(row(11, 0, 0), row(0, 0, 0)), 0);
        edges("trap 3", planted(row(1, 0, -1), row(13, 0, 0), row(0, 0, 0)), 0);
        edges("an empty program", planted(), 0);
        EdgeCampaign all = planted(row(6, 0, 2), row(0, 0, 0), row(1, 1, -1), row(7, 1, 5), row(0, 0, 0), row(8, 0, 7),
            row(0, 0, 0), row(9, 0, 9), row(0, 0, 0), row(10, 0, 0));
        edges("6 to 10", all, 5);
        int[][] due = {{0, 2}, {3, 5}, {5, 7}, {7, 9}, {9, 8}};
        for (int[] edge : due) {
            Expect.same("seen(" + edge[0] + ", " + edge[1] + ")", all.seen(edge[0], edge[1]), 1);
        }
    }

    private static void notWhenItEndsOrTraps() {
        EdgeCampaign ends = planted(row(10, 0, 0), row(0, 0, 0));
        edges("a return that ends", ends, 0);
        // Three calls of place 0 and a fourth that traps: three times is bucket 2, four times would be bucket 3.
        EdgeCampaign traps = planted(row(9, 0, 0), row(0, 0, 0));
        edges("a call that traps", traps, 1);
        Expect.same("three times", traps.seen(0, 0), 4);
        EdgeCampaign elsewhere = planted(row(9, 0, 1), row(9, 0, 2), row(9, 0, 3), row(9, 0, 0));
        edges("a call of another place that traps", elsewhere, 3);
        Expect.same("seen(3, 0)", elsewhere.seen(3, 0), 0);
        Expect.same("seen(3, 4)", elsewhere.seen(3, 4), 0);
    }

    private static void notOutOfTheProgram() {
        int[] ops = {6, 8, 9};
        for (int op : ops) {
            edges("op " + op + " to behind the last", planted(row(op, 0, 1)), 0);
            edges("op " + op + " to 23", planted(row(op, 0, 23)), 0);
            EdgeCampaign last = planted(row(op, 0, 1), row(0, 0, 0));
            edges("op " + op + " to the last", last, 1);
            Expect.same("seen(0, 1)", last.seen(0, 1), 1);
        }
        edges("7 out of the program", planted(row(1, 0, -1), row(7, 0, 2)), 0);
        edges("6 that does not jump, behind the last", planted(row(1, 0, 1), row(6, 0, 0)), 0);
        edges("7 that does not jump, behind the last", planted(row(7, 0, 0)), 0);
        EdgeCampaign returned = planted(row(8, 0, 2), row(10, 0, 0), row(9, 0, 1));
        edges("a return to behind the last", returned, 2);
        Expect.same("seen(1, 3)", returned.seen(1, 3), 0);
        int[][] full = new int[24][];
        java.util.Arrays.fill(full, row(0, 0, 0));
        full[0] = row(8, 0, 23);
        full[23] = row(9, 0, 1);
        full[1] = row(10, 0, 0);
        EdgeCampaign far = planted(full);
        edges("a return to 24", far, 2);
        Expect.same("seen(0, 23)", far.seen(0, 23), 1);
        Expect.same("seen(23, 1)", far.seen(23, 1), 1);
        // Step 64 is the jump from 3 to 5; the run hangs at 5, which is the place of an instruction.
        EdgeCampaign hung = planted(row(1, 0, 21), row(1, 1, -1), row(3, 0, 1), row(6, 0, 5), row(8, 0, 2), row(0, 0, 0));
        Expect.same("a hang", hung.count(1), 1);
        Expect.same("the edge of step 64", hung.seen(3, 5), 1);
    }

    private static void alsoToTheNextPlace() {
        EdgeCampaign six = planted(row(1, 0, 1), row(6, 0, 0), row(0, 0, 0));
        Expect.same("6 that does not jump", six.seen(1, 2), 1);
        EdgeCampaign seven = planted(row(1, 0, 1), row(7, 0, 0), row(0, 0, 0));
        Expect.same("7 that does not jump", seven.seen(1, 2), 1);
        EdgeCampaign jumped = planted(row(6, 0, 1), row(1, 0, -1), row(7, 0, 3), row(8, 0, 4), row(9, 0, 5), row(0, 0, 0));
        edges("6, 7, 8 and 9 that jump to the next place", jumped, 4);
        int[] from = {0, 2, 3, 4};
        for (int place : from) {
            Expect.same("seen(" + place + ", " + (place + 1) + ")", jumped.seen(place, place + 1), 1);
        }
    }

    /** Goes along 4-2 and 3-4 as often as the first byte says, and along 3-5 at the end. */
    private static EdgeCampaign looping() {
        return Expect.campaign(1, row(2, 0, 1), row(1, 2, -1), row(3, 0, 2), row(7, 0, 5), row(8, 0, 2), row(0, 0, 0));
    }

    private static void sixBuckets() {
        int[] times = {0, 1, 2, 3, 4, 5, 6, 7, 8, 9, 14, 15, 16, 17, 19};
        int[] due = {0, 1, 2, 4, 8, 8, 8, 8, 16, 16, 16, 16, 32, 32, 32};
        for (int i = 0; i < times.length; i++) {
            EdgeCampaign x = looping();
            Expect.plant(x, times[i]);
            Expect.same(times[i] + " times", x.seen(4, 2), due[i]);
            Expect.same("the way out, once", x.seen(3, 5), 1);
        }
        Expect.same("64 times", planted(row(8, 0, 0)).seen(0, 0), 32);
        EdgeCampaign two = planted(row(8, 0, 1), row(8, 0, 0));
        Expect.same("32 times each", two.seen(0, 1) + two.seen(1, 0), 64);
    }

    private static void anotherBucketIsAnotherPair() {
        EdgeCampaign x = looping();
        int[] times = {4, 7, 3, 8, 15, 16, 19, 2, 1, 0};
        int[] entries = {1, 1, 2, 3, 3, 4, 4, 5, 6, 6};
        int[] pairs = {3, 3, 5, 7, 7, 9, 9, 11, 13, 13};
        for (int i = 0; i < times.length; i++) {
            Expect.plant(x, times[i]);
            Expect.same("entries behind " + times[i] + " times", x.count(3), entries[i]);
            Expect.same("pairs behind " + times[i] + " times", x.count(6), pairs[i]);
            Expect.same("edges behind " + times[i] + " times", x.count(5), 3);
        }
    }
}
