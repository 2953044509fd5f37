/**
 * Promises 5 to 9 and 13: just, justAt, leaves, beside, nearest, beat. Each test is of one sentence of
 * the document.
 */
final class JustTest {
    public static void main(String[] args) {
        Check.each(JustTest::justPlacesThere, JustTest::justNumbersAbove, JustTest::justNumbersBelow,
            JustTest::justOfEdges, JustTest::justWithoutDivisor, JustTest::justOfOnePlace, JustTest::justAtPlacesThere,
            JustTest::justAtPartsThere, JustTest::justAtParts, JustTest::leavesPlacesThere, JustTest::leavesCutOff,
            JustTest::leavesOfLeast, JustTest::leavesOfGreatest, JustTest::leavesBehindScale,
            JustTest::besidePlacesThere, JustTest::besideLess, JustTest::besideTheSame, JustTest::besideMore,
            JustTest::nearestNumbersAbove, JustTest::nearestNumbersBelow, JustTest::nearestItself,
            JustTest::nearestNotPastMiddle, JustTest::nearestPastMiddle, JustTest::nearestAtLeast,
            JustTest::nearestAtMost, JustTest::nearestWithoutDivisor, JustTest::beatPlacesThere,
            JustTest::beatPartsThere, JustTest::beatHertz, JustTest::beats, JustTest::beatsOfNoDifference,
            JustTest::beatsWithoutDivisor, JustTest::beatsOfGreatest);
        Check.end("JustTest");
    }

    private static void fractionIs(FretRoots x, int k, int above, int below) {
        Check.same("justAt(" + k + ", 0)", x.justAt(k, 0), above);
        Check.same("justAt(" + k + ", 1)", x.justAt(k, 1), below);
    }

    private static void justPlacesThere() {
        Check.sentence(5, "places 0 .. 2 n", "beyond them ArrayIndexOutOfBoundsException");
        for (int notes : new int[] {1, 12, 24}) {
            FretRoots x = new FretRoots(notes);
            Edges.ofPlace("just(#, 3, 2) of " + notes, 0, 2 * notes, k -> x.just(k, 3, 2));
            fractionIs(x, 0, 3, 2);
            fractionIs(x, 2 * notes, 3, 2);
        }
    }

    private static void justNumbersAbove() {
        Check.sentence(5, "IllegalArgumentException: a number is not 1 .. 1000000.", "above");
        FretRoots x = new FretRoots(12);
        Edges.ofNumber("just(7, #, 1)", 1, 1000000, above -> x.just(7, above, 1));
        Edges.ofNumber("just(7, #, 1000000)", 1, 1000000, above -> x.just(7, above, 1000000));
        x.just(7, 1, 1);
        fractionIs(x, 7, 1, 1);
        x.just(7, 1000000, 1);
        fractionIs(x, 7, 1000000, 1);
    }

    private static void justNumbersBelow() {
        Check.sentence(5, "IllegalArgumentException: a number is not 1 .. 1000000.", "below");
        FretRoots x = new FretRoots(12);
        Edges.ofNumber("just(7, 1, #)", 1, 1000000, below -> x.just(7, 1, below));
        Edges.ofNumber("just(7, 1000000, #)", 1, 1000000, below -> x.just(7, 1000000, below));
        // Without their common divisor these would be small enough.
        Check.noNumber("just(7, 2000000, 4)", () -> x.just(7, 2000000, 4));
        Check.noNumber("just(7, 4, 2000000)", () -> x.just(7, 4, 2000000));
        Check.noNumber("just(7, -3, -2)", () -> x.just(7, -3, -2));
        x.just(7, 1, 1000000);
        fractionIs(x, 7, 1, 1000000);
    }

    private static void justOfEdges() {
        Check.sentence(5, "FRACTIONS have a numerator 1 .. 1000000 and a denominator 1 .. 1000000");
        int[][] kept = {{1, 1}, {1, 1000000}, {1000000, 1}, {999999, 1000000}, {1000000, 999999}, {999999, 999998}};
        FretRoots x = new FretRoots(3);
        for (int[] f : kept) {
            x.just(6, f[0], f[1]);
            fractionIs(x, 6, f[0], f[1]);
        }
    }

    private static void justWithoutDivisor() {
        Check.sentence(5, "as they are without a common divisor.");
        int[][] due = {{4, 2, 2, 1}, {2, 4, 1, 2}, {6, 4, 3, 2}, {7, 7, 1, 1}, {1000000, 1000000, 1, 1},
            {1000000, 2, 500000, 1}, {2, 1000000, 1, 500000}, {5, 1000000, 1, 200000}, {999999, 333333, 3, 1},
            {786432, 524288, 3, 2}, {832040, 514229, 832040, 514229}, {720720, 831600, 13, 15}};
        for (int[] d : due) {
            FretRoots x = new FretRoots(1);
            x.just(1, d[0], d[1]);
            Check.same("justAt(1, 0) of " + d[0] + " / " + d[1], x.justAt(1, 0), d[2]);
            Check.same("justAt(1, 1) of " + d[0] + " / " + d[1], x.justAt(1, 1), d[3]);
        }
    }

    private static void justOfOnePlace() {
        Check.sentence(5, "The fraction of a JUST place.", "of no other one");
        FretRoots x = new FretRoots(2);
        for (int k = 0; k <= 4; k++) {
            x.just(k, 11 + k, 10);
        }
        x.just(0, 3, 2);
        x.just(4, 5, 4);
        x.just(4, 5, 3);
        fractionIs(x, 0, 3, 2);
        fractionIs(x, 1, 6, 5);
        fractionIs(x, 2, 13, 10);
        fractionIs(x, 3, 7, 5);
        fractionIs(x, 4, 5, 3);
    }

    private static void justAtPlacesThere() {
        Check.sentence(6, "places 0 .. 2 n", "beyond them ArrayIndexOutOfBoundsException");
        for (int notes : new int[] {1, 12, 24}) {
            FretRoots x = new FretRoots(notes);
            Edges.ofPlace("justAt(#, 0) of " + notes, 0, 2 * notes, k -> x.justAt(k, 0));
            Edges.ofPlace("justAt(#, 1) of " + notes, 0, 2 * notes, k -> x.justAt(k, 1));
        }
    }

    private static void justAtPartsThere() {
        Check.sentence(6, "ArrayIndexOutOfBoundsException: also of part.");
        FretRoots x = new FretRoots(12);
        Edges.ofPlace("justAt(0, #)", 0, 1, part -> x.justAt(0, part));
        Edges.ofPlace("justAt(24, #)", 0, 1, part -> x.justAt(24, part));
    }

    private static void justAtParts() {
        Check.sentence(6, "Numerator (part = 0) or denominator (1) of a JUST place's fraction.");
        FretRoots x = new FretRoots(12);
        x.just(7, 3, 2);
        Check.same("justAt(7, 0)", x.justAt(7, 0), 3);
        Check.same("justAt(7, 1)", x.justAt(7, 1), 2);
        Check.same("justAt(6, 0)", x.justAt(6, 0), 1);
        Check.same("justAt(8, 1)", x.justAt(8, 1), 1);
    }

    private static void leavesPlacesThere() {
        Check.sentence(7, "places 0 .. 2 n", "beyond them ArrayIndexOutOfBoundsException");
        for (int notes : new int[] {1, 12, 24}) {
            FretRoots x = new FretRoots(notes);
            Edges.ofPlace("leaves(#) of " + notes, 0, 2 * notes, x::leaves);
        }
    }

    private static void leavesAre(int length, int shift, int above, int below, long due) {
        FretRoots x = new FretRoots(12);
        x.scale(length, shift);
        x.just(24, above, below);
        Check.same("leaves of " + length + " at " + shift + " by " + above + " / " + below, x.leaves(24), due);
    }

    private static void leavesCutOff() {
        Check.sentence(7, "the whole ones (cut off)");
        leavesAre(648, 0, 3, 2, 432);
        leavesAre(649, 0, 3, 2, 432);
        leavesAre(650, 0, 3, 2, 433);
        leavesAre(651, 0, 3, 2, 434);
        leavesAre(648, 0, 5, 4, 518);
        leavesAre(648, 1, 5, 4, 1036);
        leavesAre(648, 2, 5, 4, 2073);
        leavesAre(999999, 0, 1000000, 999999, 999998);
    }

    private static void leavesOfLeast() {
        Check.sentence(7, "the whole ones (cut off)", "0 of what is less than 1");
        leavesAre(1, 0, 2, 1, 0);
        leavesAre(1, 0, 1000000, 999999, 0);
        leavesAre(1, 0, 1, 1, 1);
        leavesAre(999999, 0, 1000000, 1, 0);
        leavesAre(1000000, 0, 1000000, 1, 1);
        leavesAre(15, 16, 1000000, 1, 0);
        leavesAre(16, 16, 1000000, 1, 1);
    }

    private static void leavesOfGreatest() {
        Check.sentence(7, "What a JUST place leaves, in parts of 2^SHIFT to one", "the greatest");
        leavesAre(1000000, 16, 1, 1000000, 65536000000000000L);
        leavesAre(1000000, 16, 1, 1, 65536000000L);
        leavesAre(1000000, 16, 3, 1000000, 21845333333333333L);
        leavesAre(1000000, 16, 999999, 1000000, 65536065536L);
        leavesAre(1000000, 16, 1000000, 1, 65536);
    }

    private static void leavesBehindScale() {
        Check.sentence(7, "JUST place k leaves LENGTH / fraction.", "LENGTH and SHIFT as they are now");
        FretRoots x = new FretRoots(12);
        x.just(7, 3, 2);
        Check.same("leaves(7)", x.leaves(7), 170666);
        x.scale(648, 0);
        Check.same("leaves(7) of 648 at 0", x.leaves(7), 432);
        x.scale(648, 1);
        Check.same("leaves(7) of 648 at 1", x.leaves(7), 864);
        x.just(7, 1, 2);
        Check.same("leaves(7) of 648 at 1 by 1 / 2", x.leaves(7), 2592);
        x.fan(5, 7, 9);
        Check.same("leaves(7), a fan has other lengths", x.leaves(7), 2592);
    }

    private static void besidePlacesThere() {
        Check.sentence(8, "places 0 .. 2 n", "beyond them ArrayIndexOutOfBoundsException");
        for (int notes : new int[] {1, 12, 24}) {
            FretRoots x = new FretRoots(notes);
            Edges.ofPlace("beside(#) of " + notes, 0, 2 * notes, x::beside);
        }
    }

    private static void besideIs(int notes, int k, int above, int below, int due) {
        FretRoots x = new FretRoots(notes);
        x.just(k, above, below);
        Check.same("beside(" + k + ") of " + notes + " by " + above + " / " + below, x.beside(k), due);
    }

    /** The nearest fractions below with numbers up to 1000000. */
    private static void besideLess() {
        Check.sentence(8, "BESIDE the fret it is: -1 if the fraction is less than 2^(k / n)");
        besideIs(12, 4, 5, 4, -1);
        besideIs(12, 0, 999999, 1000000, -1);
        besideIs(12, 12, 999999, 500000, -1);
        besideIs(12, 24, 999999, 250000, -1);
        besideIs(12, 24, 1, 1000000, -1);
        besideIs(1, 1, 999999, 500000, -1);
        besideIs(24, 48, 999999, 250000, -1);
        besideIs(2, 1, 941664, 665857, -1);
        besideIs(2, 3, 551614, 195025, -1);
        besideIs(12, 7, 950977, 634701, -1);
        besideIs(23, 45, 623849, 160734, -1);
        besideIs(24, 1, 317584, 308543, -1);
        besideIs(24, 12, 941664, 665857, -1);
        besideIs(24, 47, 831643, 214003, -1);
    }

    private static void besideTheSame() {
        Check.sentence(8, "0 if the same");
        for (int notes = 1; notes <= 24; notes++) {
            besideIs(notes, 0, 1, 1, 0);
            besideIs(notes, notes, 2, 1, 0);
            besideIs(notes, 2 * notes, 4, 1, 0);
            besideIs(notes, 0, 1000000, 1000000, 0);
            besideIs(notes, notes, 1000000, 500000, 0);
            besideIs(notes, 2 * notes, 1000000, 250000, 0);
        }
    }

    /** The nearest fractions above with numbers up to 1000000. */
    private static void besideMore() {
        Check.sentence(8, "1 if it is more");
        besideIs(12, 7, 3, 2, 1);
        besideIs(12, 0, 1000000, 999999, 1);
        besideIs(12, 12, 1000000, 499999, 1);
        besideIs(12, 24, 1000000, 249999, 1);
        besideIs(12, 0, 1000000, 1, 1);
        besideIs(1, 1, 1000000, 499999, 1);
        besideIs(24, 48, 1000000, 1, 1);
        besideIs(2, 1, 665857, 470832, 1);
        besideIs(2, 3, 665857, 235416, 1);
        besideIs(12, 7, 224358, 149741, 1);
        besideIs(23, 45, 983738, 253459, 1);
        besideIs(24, 1, 769775, 747861, 1);
        besideIs(24, 12, 665857, 470832, 1);
        besideIs(24, 47, 308543, 79396, 1);
    }

    private static void nearestNumbersAbove() {
        Check.sentence(9, "IllegalArgumentException: a number is not 1 .. 1000000.", "above");
        FretRoots x = new FretRoots(12);
        Edges.ofNumber("nearest(#, 1)", 1, 1000000, above -> x.nearest(above, 1));
        Edges.ofNumber("nearest(#, 1000000)", 1, 1000000, above -> x.nearest(above, 1000000));
        Check.same("nearest(1, 1)", x.nearest(1, 1), 0);
        Check.same("nearest(1000000, 1)", x.nearest(1000000, 1), 24);
    }

    private static void nearestNumbersBelow() {
        Check.sentence(9, "IllegalArgumentException: a number is not 1 .. 1000000.", "below");
        FretRoots x = new FretRoots(12);
        Edges.ofNumber("nearest(1, #)", 1, 1000000, below -> x.nearest(1, below));
        Edges.ofNumber("nearest(1000000, #)", 1, 1000000, below -> x.nearest(1000000, below));
        Check.noNumber("nearest(2000000, 1000000)", () -> x.nearest(2000000, 1000000));
        Check.noNumber("nearest(1000000, 2000000)", () -> x.nearest(1000000, 2000000));
        Check.noNumber("nearest(-3, -2)", () -> x.nearest(-3, -2));
        Check.noNumber("nearest(0, 0)", () -> x.nearest(0, 0));
        Check.same("nearest(1, 1000000)", x.nearest(1, 1000000), 0);
    }

    private static void nearestIs(int notes, int above, int below, int due) {
        FretRoots x = new FretRoots(notes);
        Check.same("nearest(" + above + ", " + below + ") of " + notes, x.nearest(above, below), due);
    }

    private static void nearestItself() {
        Check.sentence(9, "the greatest k with 2^(k / n) not above it", "as much is not above");
        for (int notes = 1; notes <= 24; notes++) {
            nearestIs(notes, 1, 1, 0);
            nearestIs(notes, 2, 1, notes);
            nearestIs(notes, 4, 1, 2 * notes);
            nearestIs(notes, 1000000, 1000000, 0);
            nearestIs(notes, 1000000, 500000, notes);
            nearestIs(notes, 1000000, 250000, 2 * notes);
        }
        nearestIs(12, 3, 2, 7);
        nearestIs(12, 5, 4, 4);
        nearestIs(12, 17, 16, 1);
        nearestIs(12, 999999, 500000, 12);
        nearestIs(12, 1000000, 499999, 12);
    }

    /** The greatest fractions below a middle with numbers up to 1000000. */
    private static void nearestNotPastMiddle() {
        Check.sentence(9, "or the next one, if the fraction's square is above 2^((2 k + 1) / n)", "hardly below");
        int[][] due = {{1, 941664, 665857, 0}, {1, 551614, 195025, 1}, {5, 419744, 391635, 0}, {5, 850579, 227907, 9},
            {12, 317584, 308543, 0}, {12, 654894, 449897, 6}, {12, 878636, 452191, 11}, {12, 635168, 308543, 12},
            {12, 831643, 214003, 23}, {23, 941663, 927580, 0}, {23, 451572, 114607, 45}, {24, 308437, 304015, 0},
            {24, 395247, 200498, 23}, {24, 616874, 304015, 24}, {24, 395247, 100249, 47}};
        for (int[] d : due) {
            nearestIs(d[0], d[1], d[2], d[3]);
        }
    }

    /** The least fractions above a middle with numbers up to 1000000. */
    private static void nearestPastMiddle() {
        Check.sentence(9, "or the next one, if the fraction's square is above 2^((2 k + 1) / n)", "hardly above");
        int[][] due = {{1, 665857, 470832, 1}, {1, 665857, 235416, 2}, {5, 962459, 898006, 1}, {5, 391635, 104936, 10},
            {12, 769775, 747861, 1}, {12, 672455, 461961, 7}, {12, 308543, 158792, 12}, {12, 452191, 219659, 13},
            {12, 308543, 79396, 24}, {23, 114607, 112893, 1}, {23, 814687, 206764, 46}, {24, 709433, 699262, 1},
            {24, 608030, 308437, 24}, {24, 709433, 349631, 25}, {24, 820813, 208188, 48}};
        for (int[] d : due) {
            nearestIs(d[0], d[1], d[2], d[3]);
        }
    }

    private static void nearestAtLeast() {
        Check.sentence(9, "at least 0");
        for (int notes : new int[] {1, 12, 24}) {
            nearestIs(notes, 999999, 1000000, 0);
            nearestIs(notes, 99, 100, 0);
            nearestIs(notes, 97, 100, 0);
            nearestIs(notes, 2, 3, 0);
            nearestIs(notes, 1, 2, 0);
            nearestIs(notes, 1, 4, 0);
            nearestIs(notes, 2, 1000000, 0);
            nearestIs(notes, 1, 1000000, 0);
        }
    }

    private static void nearestAtMost() {
        Check.sentence(9, "at most 2 n");
        for (int notes : new int[] {1, 12, 24}) {
            nearestIs(notes, 999999, 250000, 2 * notes);
            nearestIs(notes, 1000000, 249999, 2 * notes);
            nearestIs(notes, 406, 100, 2 * notes);
            nearestIs(notes, 412, 100, 2 * notes);
            nearestIs(notes, 6, 1, 2 * notes);
            nearestIs(notes, 8, 1, 2 * notes);
            nearestIs(notes, 16, 1, 2 * notes);
            nearestIs(notes, 1000000, 1, 2 * notes);
        }
    }

    private static void nearestWithoutDivisor() {
        Check.sentence(9, "The fret 0 .. 2 n that is nearest to a fraction", "with a common divisor, too");
        nearestIs(12, 600000, 400000, 7);
        nearestIs(12, 262144, 131072, 12);
        nearestIs(24, 999999, 333333, 38);
        nearestIs(24, 3, 1, 38);
    }

    private static FretRoots threeFractions() {
        FretRoots x = new FretRoots(1);
        x.just(0, 1, 1);
        x.just(1, 3, 2);
        x.just(2, 5, 4);
        return x;
    }

    private static void beatPlacesThere() {
        Check.sentence(13, "places 0 .. 2 n", "beyond them ArrayIndexOutOfBoundsException");
        for (int notes : new int[] {1, 12, 24}) {
            FretRoots x = new FretRoots(notes);
            Edges.ofPlace("beat(#, 0, 440, 0) of " + notes, 0, 2 * notes, a -> x.beat(a, 0, 440, 0));
            Edges.ofPlace("beat(0, #, 440, 1) of " + notes, 0, 2 * notes, b -> x.beat(0, b, 440, 1));
            Edges.ofPlace("beat(#, #, 440, 0) of " + notes, 0, 2 * notes, k -> x.beat(k, k, 440, 0));
        }
    }

    private static void beatPartsThere() {
        Check.sentence(13, "ArrayIndexOutOfBoundsException: also of part");
        FretRoots x = threeFractions();
        Edges.ofPlace("beat(1, 2, 441, #)", 0, 1, part -> x.beat(1, 2, 441, part));
        Check.same("beat(1, 2, 441, 0)", x.beat(1, 2, 441, 0), 441);
        Check.same("beat(1, 2, 441, 1)", x.beat(1, 2, 441, 1), 4);
    }

    private static void beatHertz() {
        Check.sentence(13, "IllegalArgumentException: hertz is not 1 .. 100000.");
        FretRoots x = threeFractions();
        Edges.ofNumber("beat(1, 2, #, 0)", 1, 100000, hertz -> x.beat(1, 2, hertz, 0));
        Edges.ofNumber("beat(0, 0, #, 1)", 1, 100000, hertz -> x.beat(0, 0, hertz, 1));
        Check.same("beat(1, 2, 1, 0)", x.beat(1, 2, 1, 0), 1);
        Check.same("beat(1, 2, 1, 1)", x.beat(1, 2, 1, 1), 4);
        Check.same("beat(1, 2, 100000, 0)", x.beat(1, 2, 100000, 0), 25000);
        Check.same("beat(1, 2, 100000, 1)", x.beat(1, 2, 100000, 1), 1);
    }

    private static void beats() {
        Check.sentence(13, "of the pitches pitch * fraction both, the greater less the lesser one, as a fraction.");
        FretRoots x = threeFractions();
        Check.same("beat(0, 1, 440, 0)", x.beat(0, 1, 440, 0), 220);
        Check.same("beat(1, 0, 440, 0)", x.beat(1, 0, 440, 0), 220);
        Check.same("beat(1, 2, 440, 0)", x.beat(1, 2, 440, 0), 110);
        Check.same("beat(2, 1, 440, 0)", x.beat(2, 1, 440, 0), 110);
        Check.same("beat(2, 1, 440, 1)", x.beat(2, 1, 440, 1), 1);
        x.just(1, 1, 3);
        Check.same("beat(1, 2, 440, 0) of 1 / 3 and 5 / 4", x.beat(1, 2, 440, 0), 1210);
        Check.same("beat(1, 2, 440, 1) of 1 / 3 and 5 / 4", x.beat(1, 2, 440, 1), 3);
    }

    private static void beatsOfNoDifference() {
        Check.sentence(13, "the greater less the lesser one, as a fraction", "none is 0 / 1");
        FretRoots x = threeFractions();
        Check.same("beat(2, 2, 7, 0)", x.beat(2, 2, 7, 0), 0);
        Check.same("beat(2, 2, 7, 1)", x.beat(2, 2, 7, 1), 1);
        x.just(1, 10, 8);
        Check.same("beat(1, 2, 1, 0) of 10 / 8 and 5 / 4", x.beat(1, 2, 1, 0), 0);
        Check.same("beat(1, 2, 1, 1) of 10 / 8 and 5 / 4", x.beat(1, 2, 1, 1), 1);
        x.just(2, 1, 1000000);
        x.just(1, 1, 1000000);
        Check.same("beat(1, 2, 100000, 0) of the least", x.beat(1, 2, 100000, 0), 0);
        Check.same("beat(1, 2, 100000, 1) of the least", x.beat(1, 2, 100000, 1), 1);
    }

    private static void beatsWithoutDivisor() {
        Check.sentence(13, "as a fraction", "without a common divisor, the pitch's too");
        FretRoots x = threeFractions();
        Check.same("beat(1, 2, 2, 0)", x.beat(1, 2, 2, 0), 1);
        Check.same("beat(1, 2, 2, 1)", x.beat(1, 2, 2, 1), 2);
        x.just(1, 7, 6);
        x.just(2, 7, 4);
        Check.same("beat(1, 2, 3, 0) of 7 / 6 and 7 / 4", x.beat(1, 2, 3, 0), 7);
        Check.same("beat(1, 2, 3, 1) of 7 / 6 and 7 / 4", x.beat(1, 2, 3, 1), 4);
        Check.same("beat(1, 2, 5, 0) of 7 / 6 and 7 / 4", x.beat(1, 2, 5, 0), 35);
        Check.same("beat(1, 2, 5, 1) of 7 / 6 and 7 / 4", x.beat(1, 2, 5, 1), 12);
    }

    private static void beatsOfGreatest() {
        Check.sentence(13, "BEATS of two just places at a pitch", "the greatest and the least difference");
        FretRoots x = threeFractions();
        x.just(0, 1000000, 1);
        x.just(1, 1, 1000000);
        x.just(2, 1, 999999);
        Check.same("beat(0, 1, 99999, 0)", x.beat(0, 1, 99999, 0), 99999L * 999999999999L);
        Check.same("beat(0, 1, 99999, 1)", x.beat(0, 1, 99999, 1), 1000000);
        Check.same("beat(1, 0, 100000, 0)", x.beat(1, 0, 100000, 0), 999999999999L);
        Check.same("beat(1, 0, 100000, 1)", x.beat(1, 0, 100000, 1), 10);
        Check.same("beat(1, 2, 1, 0)", x.beat(1, 2, 1, 0), 1);
        Check.same("beat(1, 2, 1, 1)", x.beat(1, 2, 1, 1), 999999000000L);
        Check.same("beat(2, 1, 100000, 0)", x.beat(2, 1, 100000, 0), 1);
        Check.same("beat(2, 1, 100000, 1)", x.beat(2, 1, 100000, 1), 9999990);
        x.just(1, 1000000, 999999);
        Check.same("beat(0, 1, 99999, 0) of 10^6 and 10^6 / 999999", x.beat(0, 1, 99999, 0), 11111L * 999998000000L);
        Check.same("beat(0, 1, 99999, 1) of 10^6 and 10^6 / 999999", x.beat(0, 1, 99999, 1), 111111);
    }
}
