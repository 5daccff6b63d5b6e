/** 'Terms': THE SHORTEST. */
final class ShortestBoundaries {
    private ShortestBoundaries() {
    }

    static void hold() {
        Sentence.holds("THE SHORTEST of an input with a sign: g is 2 at first.", ShortestBoundaries::beginsWithHalves);
        Sentence.holds("As long as there are bytes:", ShortestBoundaries::endsWithoutBytes);
        Sentence.holds("let there be n bytes, and h be the lesser of g and n;", ShortestBoundaries::aByteIsOnePart);
        Sentence.holds("the PARTS 0 .. h - 1 are the bytes from i * n / h (cut) to before (i + 1) * n / h (cut).",
            ShortestBoundaries::partsAreCut);
        Sentence.holds("If h is 2 or more, and one of the parts alone, tried in their order, traps with the sign, "
            + "the input becomes the first such part, and g 2.", ShortestBoundaries::takesTheFirstPart);
        Sentence.holds("Else, if what is left when one of the parts, in their order, is taken out traps with the sign, "
            + "the input becomes the first such rest, and g the greater of h - 1 and 2.", ShortestBoundaries::takesTheFirstRest);
        Sentence.holds("Else, if h is n, it is finished.", ShortestBoundaries::isFinishedWithSingleBytes);
        Sentence.holds("Else g becomes the lesser of 2 * h and n.", ShortestBoundaries::makesTwiceAsManyParts);
        Sentence.holds("(These runs are not executions: they are counted nowhere.)", ShortestBoundaries::countsNowhere);
    }

    private static int[] row(int op, int a, int b) {
        return Expect.row(op, a, b);
    }

    /**
     * Reads the bytes as the digits of a number, and traps, at one place, when it is one of up to four numbers; no
     * bytes are 0. Six bytes take 50 steps, and the numbers 3 each.
     */
    private static EdgeCampaign trapsOn(int... numbers) {
        int[][] rows = new int[8 + 3 * numbers.length][];
        int[][] reading = {row(2, 0, 3), row(7, 0, 8), row(1, 1, 10), row(5, 2, 1), row(3, 2, 0), row(1, 1, 1),
            row(3, 3, 1), row(8, 0, 0)};
        System.arraycopy(reading, 0, rows, 0, 8);
        rows[8] = row(1, 1, -numbers[0]);
        rows[9] = row(3, 1, 2);
        for (int i = 1; i < numbers.length; i++) {
            rows[7 + 3 * i] = row(1, 0, -numbers[i]);
            rows[8 + 3 * i] = row(3, 0, 2);
            rows[9 + 3 * i] = row(5, 1, 0);
        }
        rows[rows.length - 1] = row(12, 1, 0);
        return Expect.campaign(1, rows);
    }

    private static int[] digits(int number) {
        String text = number == 0 ? "" : Integer.toString(number);
        return text.chars().map(digit -> digit - '0').toArray();
    }

    /** What is made from the first of the numbers that trap. */
    private static void shortest(int due, int... trapping) {
        EdgeCampaign x = trapsOn(trapping);
        String what = "of " + java.util.Arrays.toString(trapping);
        Expect.same(what + ": a trap", Expect.plant(x, digits(trapping[0])), 1);
        int made = 0;
        for (int k = 0; k < x.finding(0, 8); k++) {
            made = 10 * made + x.findingByte(0, true, k);
        }
        Expect.same(what + ": the shortest", made, due);
        Expect.same(what + ": its bytes", x.finding(0, 8), digits(due).length);
    }

    private static void beginsWithHalves() {
        shortest(123, 123456, 123);
        shortest(456, 123456, 456);
        // With one part, the input without bytes would be tried; with three, 34; with four, 23.
        shortest(123, 123456, 123, 0);
        shortest(123, 123456, 123, 34);
        shortest(123, 123456, 123, 4);
        shortest(12, 12, 0);
    }

    private static void endsWithoutBytes() {
        for (int n = 0; n <= 6; n++) {
            EdgeCampaign x = Expect.campaign(1, row(12, 0, 0));
            Expect.same("a trap", Expect.plant(x, new int[n]), 1);
            Expect.same("bytes of the input", x.finding(0, 7), n);
            Expect.same("bytes of the shortest", x.finding(0, 8), 0);
            Expect.same("its byte 0", x.findingByte(0, true, 0), -1);
        }
        EdgeCampaign none = trapsOn(0);
        Expect.same("a trap without bytes", none.plant(), 1);
        Expect.same("bytes of the shortest", none.finding(0, 8), 0);
    }

    private static void aByteIsOnePart() {
        shortest(0, 7, 0);
        shortest(7, 7);
        // 12 becomes its part 1, which is one byte, of which nothing is left.
        shortest(0, 12, 1, 0);
        shortest(0, 123456, 123, 1, 0);
    }

    private static void partsAreCut() {
        // Three bytes in two parts: 1 and 23.
        shortest(1, 123, 1);
        shortest(23, 123, 23);
        // Five in two: 12 and 345.
        shortest(12, 12345, 12);
        shortest(345, 12345, 345);
        // Six in four: 1, 23, 4 and 56. Neither 12 nor 34 nor 45 is one.
        shortest(1, 123456, 1);
        shortest(23, 123456, 23);
        shortest(4, 123456, 4);
        shortest(56, 123456, 56);
        shortest(123456, 123456, 12);
        shortest(123456, 123456, 34);
        shortest(123456, 123456, 45);
        // Five in four: 1, 2, 3 and 45.
        shortest(45, 12345, 45);
        shortest(2, 12345, 2);
        shortest(12345, 12345, 23);
        shortest(12345, 12345, 34);
        // Five in three, behind the first rest of six: 2, 34 and 56.
        shortest(34, 123456, 23456, 34);
        shortest(2, 123456, 23456, 2);
        // Four in three, behind the second rest of six: 1, 4 and 56, of which the last is taken out here.
        shortest(14, 123456, 1456, 14);
    }

    private static void takesTheFirstPart() {
        shortest(123, 123456, 123, 456);
        shortest(12, 12345, 12, 345);
        shortest(23, 123456, 56, 23);
        shortest(1, 12, 2, 1);
        // A part comes before a rest, though the rest be the first and the part the last.
        shortest(56, 123456, 23456, 56);
        shortest(56, 123456, 1456, 56);
        // Behind a part, there are two parts again: 1 and 23.
        shortest(23, 123456, 123, 23);
        shortest(6, 123456, 456, 56, 6);
        // With one byte, h is 1: the part alone is the input itself, and is not tried.
        shortest(5, 5);
        // A part that traps with another sign, here at 2, is not taken.
        EdgeCampaign other = Expect.campaign(1, row(15, 0, 0), row(12, 0, 4), row(12, 0, 2));
        Expect.plant(other, 5, 6, 7, 8);
        Expect.same("another place", other.finding(0, 8), 4);
    }

    private static void takesTheFirstRest() {
        shortest(23456, 123456, 1456, 23456);
        shortest(1456, 123456, 12356, 1456);
        shortest(12356, 123456, 1234, 12356);
        shortest(1234, 123456, 1234);
        shortest(13, 123, 13, 12);
        shortest(12, 123, 12);
        // Four parts become three: 34 is one of 2, 34 and 56. With two or four parts, nothing traps.
        shortest(34, 123456, 23456, 34);
        shortest(23456, 123456, 23456, 45);
        // Six parts become five: with two, 13 would be one.
        shortest(13456, 123456, 13456, 13);
        shortest(1356, 123456, 13456, 1356);
        // Two bytes in two parts: what is left is tried as a part already; the lesser number of parts stays 2.
        shortest(12, 123, 12);
        shortest(2, 123, 12, 2);
        // One byte in one part: what is left has no bytes, and it is over.
        shortest(0, 5, 0);
        // A byte at a time: 1 with four parts, 5 with five behind three, 3 with four, and then nothing more.
        shortest(246, 123456, 23456, 2346, 246);
        // What is left traps at the same place, but with another place on the stack: from 4 with four bytes or more.
        EdgeCampaign called = Expect.campaign(1, row(15, 0, 0), row(1, 1, -4), row(3, 0, 1), row(7, 0, 6), row(9, 0, 7),
            row(0, 0, 0), row(9, 0, 7), row(12, 3, 0));
        Expect.plant(called, 1, 2, 3, 4, 5, 6);
        Expect.same("another place on the stack", called.finding(0, 8), 4);
        Expect.same("its first byte", called.findingByte(0, true, 0), 3);
    }

    private static void isFinishedWithSingleBytes() {
        for (int n = 1; n <= 6; n++) {
            int[] input = new int[n];
            java.util.Arrays.fill(input, 9);
            EdgeCampaign x = Expect.campaign(1, row(15, 0, 0), row(12, 0, n));
            Expect.same("a trap", Expect.plant(x, input), 1);
            Expect.same("nothing shorter than " + n + " traps", x.finding(0, 8), n);
        }
        shortest(123456, 123456);
        // Without bytes it would trap too, but this is never tried with more than one byte.
        shortest(12, 12, 0);
        shortest(123456, 123456, 0);
        // Nor are two bytes taken out of six, where single ones may not go.
        shortest(123456, 123456, 1346);
    }

    private static void makesTwiceAsManyParts() {
        // Two parts, then three, which is less than four: 13 is left without the second byte.
        shortest(13, 123, 13);
        // Two, four, then five, which is less than eight: 1235 is left without the fourth byte.
        shortest(1235, 12345, 1235);
        // Two, four, then six: 12346 is left without the fifth.
        shortest(12346, 123456, 12346);
        // Four parts of four bytes behind two: 134 is left without the second byte.
        shortest(134, 1234, 134);
        // Three behind a rest of six, then five, which is less than six: 2346 is left of 23456 without the fourth.
        shortest(2346, 123456, 23456, 2346);
    }

    private static void countsNowhere() {
        // Hangs on less than five bytes, along an edge of its own, and traps with another sign on five.
        EdgeCampaign x = Expect.campaign(1, row(15, 0, 0), row(1, 1, -6), row(3, 0, 1), row(6, 0, 6), row(12, 0, -1),
            row(8, 0, 5), row(12, 0, 0));
        Expect.same("a trap", Expect.plant(x, 1, 2, 3, 4, 5, 6), 1);
        int[] due = {1, 0, 0, 1, 1, 1, 1};
        for (int which = 0; which < due.length; which++) {
            Expect.same("count(" + which + ")", x.count(which), due[which]);
        }
        Expect.same("the edge of a hang", x.seen(5, 5), 0);
        Expect.same("hits", x.finding(0, 6), 1);
        Expect.same("the shortest", x.finding(0, 8), 6);
        Expect.same("state", x.state(), 1);
        Expect.same("trial", x.current(1), 0);
        EdgeCampaign hits = Expect.campaign(1, row(12, 0, 0));
        Expect.plant(hits, 1, 2, 3, 4, 5, 6);
        Expect.same("executions", hits.count(0), 1);
        Expect.same("hits", hits.finding(0, 6), 1);
        Expect.same("findings", hits.count(4), 1);
    }
}
