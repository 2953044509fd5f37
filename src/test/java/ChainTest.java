/** Promises 10 to 12: step, clear, rest. Each test is of one sentence of the document. */
final class ChainTest {
    private static final long THREES = 617673396283947L;
    private static final long TWOS = 562949953421312L;
    private static final long MOST = 1000000000000000L;

    public static void main(String[] args) {
        Check.each(ChainTest::stepNumbersAbove, ChainTest::stepNumbersBelow, ChainTest::stepTimesFraction,
            ChainTest::halvedFromTwoOn, ChainTest::notHalvedBelowTwo, ChainTest::doubledBelowOne,
            ChainTest::notDoubledFromOneOn, ChainTest::manyOctavesAtOnce, ChainTest::octavesUpAndDown,
            ChainTest::mostIsTaken, ChainTest::oneMoreIsRefused, ChainTest::divisorGoesFirst,
            ChainTest::octavesGoFirst, ChainTest::octavesMakeItTooGreat, ChainTest::refusedWhereLongsWrap,
            ChainTest::refusedChangesNothing, ChainTest::takenBehindRefused, ChainTest::clear,
            ChainTest::clearOfRefused, ChainTest::clearOfNew, ChainTest::clearOfOthers, ChainTest::restPartsThere,
            ChainTest::restOfFifths, ChainTest::stepsSinceClear, ChainTest::refusedAreNoSteps);
        Check.end("ChainTest");
    }

    private static void chainIs(String when, FretRoots x, long above, long below, long octaves, long steps) {
        Check.same("rest(0) " + when, x.rest(0), above);
        Check.same("rest(1) " + when, x.rest(1), below);
        Check.same("rest(2) " + when, x.rest(2), octaves);
        Check.same("rest(3) " + when, x.rest(3), steps);
    }

    private static void taken(FretRoots x, int above, int below) {
        Check.same("step(" + above + ", " + below + ")", x.step(above, below), true);
    }

    private static void refused(FretRoots x, int above, int below) {
        Check.same("step(" + above + ", " + below + ")", x.step(above, below), false);
    }

    /** 3^31 / 2^49, of 31 fifths and 18 octaves. */
    private static FretRoots fifths() {
        FretRoots x = new FretRoots(12);
        for (int i = 0; i < 31; i++) {
            x.step(3, 2);
        }
        return x;
    }

    private static void stepNumbersAbove() {
        Check.sentence(10, "IllegalArgumentException: a number is not 1 .. 1000000.", "above");
        FretRoots x = new FretRoots(12);
        Edges.ofNumber("step(#, 1)", 1, 1000000, above -> x.step(above, 1));
        x.clear();
        taken(x, 1, 1);
        chainIs("behind 1 / 1", x, 1, 1, 0, 1);
        taken(x, 1000000, 1);
        chainIs("behind 1000000 / 1", x, 15625, 8192, 19, 2);
    }

    private static void stepNumbersBelow() {
        Check.sentence(10, "IllegalArgumentException: a number is not 1 .. 1000000.", "below");
        FretRoots x = new FretRoots(12);
        Edges.ofNumber("step(1, #)", 1, 1000000, below -> x.step(1, below));
        Check.noNumber("step(2000000, 4)", () -> x.step(2000000, 4));
        Check.noNumber("step(4, 2000000)", () -> x.step(4, 2000000));
        Check.noNumber("step(-3, -2)", () -> x.step(-3, -2));
        Check.noNumber("step(0, 0)", () -> x.step(0, 0));
        x.clear();
        taken(x, 1, 1000000);
        chainIs("behind 1 / 1000000", x, 16384, 15625, -20, 1);
        taken(x, 1000000, 1000000);
        chainIs("behind 1000000 / 1000000", x, 16384, 15625, -20, 2);
    }

    private static void stepTimesFraction() {
        Check.sentence(10, "A STEP makes it that times a fraction", "without a common divisor");
        FretRoots x = new FretRoots(12);
        taken(x, 3, 2);
        chainIs("of 3 / 2", x, 3, 2, 0, 1);
        taken(x, 10, 8);
        chainIs("of 15 / 8", x, 15, 8, 0, 2);
        taken(x, 14, 15);
        chainIs("of 7 / 4", x, 7, 4, 0, 3);
        taken(x, 4, 7);
        chainIs("of 1 / 1", x, 1, 1, 0, 4);
        taken(x, 999999, 999998);
        chainIs("of 999999 / 999998", x, 999999, 999998, 0, 5);
        taken(x, 999998, 999999);
        chainIs("of 1 / 1 again", x, 1, 1, 0, 6);
    }

    private static void stepFromOne(int above, int below, long newAbove, long newBelow, long octaves) {
        FretRoots x = new FretRoots(12);
        taken(x, above, below);
        chainIs("of " + above + " / " + below, x, newAbove, newBelow, octaves, 1);
    }

    private static void halvedFromTwoOn() {
        Check.sentence(10, "and then halves it as long as it is 2 or more");
        stepFromOne(2, 1, 1, 1, 1);
        stepFromOne(4, 1, 1, 1, 2);
        stepFromOne(8, 4, 1, 1, 1);
        stepFromOne(3, 1, 3, 2, 1);
        stepFromOne(1000000, 499999, 500000, 499999, 1);
        stepFromOne(1000000, 250000, 1, 1, 2);
        stepFromOne(1000000, 249999, 250000, 249999, 2);
    }

    private static void notHalvedBelowTwo() {
        Check.sentence(10, "halves it as long as it is 2 or more", "less is not halved");
        stepFromOne(999999, 500000, 999999, 500000, 0);
        stepFromOne(1000000, 500001, 1000000, 500001, 0);
        stepFromOne(999999, 250000, 999999, 500000, 1);
        stepFromOne(999999, 1, 999999, 524288, 19);
    }

    private static void doubledBelowOne() {
        Check.sentence(10, "doubles it as long as it is below 1");
        stepFromOne(1, 2, 1, 1, -1);
        stepFromOne(1, 4, 1, 1, -2);
        stepFromOne(999999, 1000000, 999999, 500000, -1);
        stepFromOne(500001, 1000000, 500001, 500000, -1);
        stepFromOne(499999, 1000000, 499999, 250000, -2);
        stepFromOne(1, 3, 4, 3, -2);
        stepFromOne(2, 3, 4, 3, -1);
    }

    private static void notDoubledFromOneOn() {
        Check.sentence(10, "doubles it as long as it is below 1", "1 and more is not doubled");
        stepFromOne(1, 1, 1, 1, 0);
        stepFromOne(7, 7, 1, 1, 0);
        stepFromOne(1000000, 999999, 1000000, 999999, 0);
        FretRoots x = new FretRoots(12);
        taken(x, 5, 4);
        taken(x, 4, 5);
        chainIs("back at 1 / 1", x, 1, 1, 0, 2);
        taken(x, 5, 3);
        taken(x, 3, 10);
        chainIs("back at 1 / 2", x, 1, 1, -1, 4);
    }

    private static void manyOctavesAtOnce() {
        Check.sentence(10, "halves it as long as it is 2 or more, doubles it as long as it is below 1",
            "the most octaves of one step");
        stepFromOne(524288, 1, 1, 1, 19);
        stepFromOne(1, 524288, 1, 1, -19);
        stepFromOne(1, 524289, 1048576, 524289, -20);
        FretRoots x = new FretRoots(12);
        taken(x, 999999, 500000);
        taken(x, 1000000, 1);
        chainIs("20 octaves up", x, 999999, 524288, 20, 2);
        x.clear();
        taken(x, 524288, 524287);
        taken(x, 1, 999999);
        chainIs("20 octaves down", x, 549755813888L, 524287L * 999999L, -20, 2);
    }

    private static void octavesUpAndDown() {
        Check.sentence(10, "(OCTAVES counts these: halved 1 more, doubled 1 less)");
        FretRoots x = new FretRoots(12);
        for (int i = 1; i <= 100; i++) {
            x.step(524288, 1);
        }
        chainIs("1900 octaves up", x, 1, 1, 1900, 100);
        for (int i = 1; i <= 200; i++) {
            x.step(1, 524288);
        }
        chainIs("1900 octaves below", x, 1, 1, -1900, 300);
        taken(x, 3, 1);
        chainIs("one up again", x, 3, 2, -1899, 301);
        taken(x, 2, 3);
        chainIs("none", x, 1, 1, -1899, 302);
    }

    /** 10^15 is the numerator, behind three steps without a common divisor. */
    private static void mostIsTaken() {
        Check.sentence(10, "a step is refused if a number of it would be above 10^15", "10^15 is not");
        FretRoots x = new FretRoots(12);
        taken(x, 1000000, 999983);
        taken(x, 1000000, 999979);
        taken(x, 1000, 997);
        chainIs("of 10^15", x, MOST, 999983L * 999979L * 997L, 0, 3);
        taken(x, 1, 1);
        chainIs("of 10^15, times 1", x, MOST, 999983L * 999979L * 997L, 0, 4);
        FretRoots y = new FretRoots(12);
        taken(y, 11479, 1);
        taken(y, 87119, 1);
        taken(y, 999961, 1);
        chainIs("of 999999999478961", y, 999999999478961L, TWOS, 49, 3);
    }

    /** 211211 * 520801 * 9091 is 10^15 + 1. */
    private static void oneMoreIsRefused() {
        Check.sentence(10, "a step is refused if a number of it would be above 10^15", "10^15 + 1 is");
        FretRoots x = new FretRoots(12);
        taken(x, 211211, 1);
        taken(x, 520801, 1);
        refused(x, 9091, 1);
        chainIs("before 10^15 + 1", x, 109998900011L, 68719476736L, 36, 2);
        taken(x, 9090, 1);
        chainIs("a little below 10^15 + 1, halved once", x, 499945000549995L, 281474976710656L, 49, 3);
        x.clear();
        taken(x, 114251, 1);
        taken(x, 8753, 1);
        refused(x, 999961, 1);
        chainIs("before 1000000001478883", x, 1000039003L, 536870912L, 29, 2);
    }

    private static void divisorGoesFirst() {
        Check.sentence(10, "(without a common divisor, behind the octaves)",
            "the divisor is gone before they are looked at");
        FretRoots x = fifths();
        taken(x, 2, 3);
        chainIs("30 fifths", x, THREES / 3, TWOS / 4, 17, 32);
        taken(x, 3, 2);
        taken(x, 524288, 531441);
        // With the common divisor of 3^12 and of 2^19 the numbers would not even be longs.
        chainIs("19 fifths", x, 1162261467L, 1073741824L, 18, 34);
        taken(x, 531441, 524288);
        chainIs("31 fifths again", x, THREES, TWOS, 18, 35);
        taken(x, 999999, 999999);
        chainIs("31 fifths, times 1", x, THREES, TWOS, 18, 36);
    }

    /** 2^49 / 5^21: twos above never grow, however many octaves a step goes. */
    private static void octavesGoFirst() {
        Check.sentence(10, "(without a common divisor, behind the octaves)", "before the octaves they may be above");
        FretRoots x = new FretRoots(12);
        for (int i = 0; i < 3; i++) {
            taken(x, 1, 15625);
        }
        taken(x, 1, 125);
        chainIs("of 2^49 / 5^21", x, TWOS, 476837158203125L, -49, 4);
        taken(x, 524288, 1);
        chainIs("of 2^49 / 5^21, 19 octaves more", x, TWOS, 476837158203125L, -30, 5);
        taken(x, 1, 524288);
        taken(x, 1, 524288);
        chainIs("of 2^49 / 5^21, 38 octaves less", x, TWOS, 476837158203125L, -68, 7);
        FretRoots y = fifths();
        taken(y, 1, 524288);
        chainIs("31 fifths, 19 octaves less", y, THREES, TWOS, -1, 32);
        taken(y, 524288, 1);
        chainIs("31 fifths again", y, THREES, TWOS, 18, 33);
    }

    /** 2^48 / 3^31 is small enough, but below 1, and 2^50 / 3^31 is not small enough. */
    private static void octavesMakeItTooGreat() {
        Check.sentence(10, "(without a common divisor, behind the octaves)",
            "behind the octaves they may not be above");
        FretRoots x = new FretRoots(12);
        for (int i = 0; i < 30; i++) {
            taken(x, 1, 3);
        }
        chainIs("of 2^48 / 3^30", x, 281474976710656L, THREES / 3, -48, 30);
        refused(x, 1, 3);
        chainIs("of 2^48 / 3^30 still", x, 281474976710656L, THREES / 3, -48, 30);
        x.clear();
        for (int i = 0; i < 3; i++) {
            taken(x, 1, 15625);
        }
        taken(x, 1, 125);
        refused(x, 1, 5);
        chainIs("of 2^49 / 5^21 still", x, TWOS, 476837158203125L, -49, 4);
    }

    /** 3^31 * 59731 is 761486017335025 in Java's longs, and more are small there; of others it is below 0. */
    private static void refusedWhereLongsWrap() {
        Check.sentence(10, "a step is refused if a number of it would be above 10^15",
            "also where a long wraps around");
        int[] wrapped = {59731, 119461, 268785, 328515, 388245, 537569, 597299, 657029, 806353, 866083, 925813,
            29865, 89595, 149325, 209055, 999999, 999983, 499979, 3, 5, 7};
        FretRoots x = fifths();
        for (int w : wrapped) {
            refused(x, w, 1);
            refused(x, w, 2);
        }
        for (int w : new int[] {29865, 59731, 119461, 149325, 209055}) {
            refused(x, w, 1000000);
            refused(x, 999983, w);
        }
        chainIs("31 fifths still", x, THREES, TWOS, 18, 31);
        refusedWhereDenominatorsWrap();
    }

    /** 5^21 * 38687 is 655065694745259 in Java's longs. */
    private static void refusedWhereDenominatorsWrap() {
        FretRoots x = new FretRoots(12);
        for (int i = 0; i < 3; i++) {
            taken(x, 1, 15625);
        }
        taken(x, 1, 125);
        for (int w : new int[] {38687, 77373, 270801, 309487, 618971, 928457, 967141}) {
            refused(x, 1, w);
            refused(x, 2, w);
        }
        chainIs("of 2^49 / 5^21 still", x, TWOS, 476837158203125L, -49, 4);
    }

    private static void refusedChangesNothing() {
        Check.sentence(10, "whether it was not refused", "a refused step leaves the chain as it was");
        FretRoots x = fifths();
        refused(x, 3, 2);
        chainIs("behind 31 fifths and a refused one", x, THREES, TWOS, 18, 31);
        refused(x, 3, 1);
        refused(x, 3, 1000000);
        refused(x, 999999, 1);
        chainIs("behind four refused ones", x, THREES, TWOS, 18, 31);
        for (int i = 0; i < 100; i++) {
            refused(x, 5, 4);
        }
        chainIs("behind 104 refused ones", x, THREES, TWOS, 18, 31);
    }

    private static void takenBehindRefused() {
        Check.sentence(10, "whether it was not refused", "the next step goes on from the chain as it was");
        FretRoots x = fifths();
        refused(x, 3, 2);
        taken(x, 2, 3);
        chainIs("back to 30 fifths", x, THREES / 3, TWOS / 4, 17, 32);
        taken(x, 3, 2);
        chainIs("31 fifths again", x, THREES, TWOS, 18, 33);
        refused(x, 3, 2);
        taken(x, 1, 1);
        chainIs("31 fifths, times 1", x, THREES, TWOS, 18, 34);
    }

    private static void clear() {
        Check.sentence(11, "The CHAIN is 1 / 1, OCTAVES 0.");
        FretRoots x = new FretRoots(12);
        x.step(3, 1);
        x.step(3, 1);
        chainIs("before", x, 9, 8, 3, 2);
        x.clear();
        chainIs("cleared", x, 1, 1, 0, 0);
        taken(x, 3, 1);
        chainIs("one step on", x, 3, 2, 1, 1);
        x.clear();
        chainIs("cleared again", x, 1, 1, 0, 0);
    }

    private static void clearOfRefused() {
        Check.sentence(11, "The CHAIN is 1 / 1, OCTAVES 0.", "also behind a refused step");
        FretRoots x = fifths();
        refused(x, 3, 2);
        x.clear();
        chainIs("cleared", x, 1, 1, 0, 0);
        taken(x, 3, 2);
        chainIs("one fifth", x, 3, 2, 0, 1);
    }

    private static void clearOfNew() {
        Check.sentence(11, "The CHAIN is 1 / 1, OCTAVES 0.", "if it was before, too");
        FretRoots x = new FretRoots(1);
        x.clear();
        chainIs("cleared", x, 1, 1, 0, 0);
        x.clear();
        chainIs("cleared twice", x, 1, 1, 0, 0);
        taken(x, 3, 2);
        chainIs("one fifth", x, 3, 2, 0, 1);
    }

    private static void clearOfOthers() {
        Check.sentence(11, "The CHAIN", "and nothing else");
        FretRoots x = new FretRoots(12);
        x.scale(650, 4);
        x.just(7, 3, 2);
        x.fan(700, 600, 5);
        x.clear();
        Check.same("fret(0, false)", x.fret(0, false), 650 * 16);
        Check.same("justAt(7, 0)", x.justAt(7, 0), 3);
        Check.same("justAt(7, 1)", x.justAt(7, 1), 2);
        Check.same("cross(0, 0, 0)", x.cross(0, 0, 0), 700 * 16);
        Check.same("cross(0, 5, 0)", x.cross(0, 5, 0), 600 * 16);
    }

    private static void restPartsThere() {
        Check.sentence(12, "ArrayIndexOutOfBoundsException: another part.");
        FretRoots x = new FretRoots(12);
        x.step(3, 1);
        Edges.ofPlace("rest(#)", 0, 3, x::rest);
        chainIs("behind what threw", x, 3, 2, 1, 1);
    }

    private static void restOfFifths() {
        Check.sentence(12, "Of the CHAIN: numerator (0), denominator (1), OCTAVES (2), steps since it was clear (3).");
        FretRoots x = new FretRoots(12);
        for (int i = 0; i < 12; i++) {
            taken(x, 3, 2);
        }
        chainIs("of twelve fifths", x, 531441, 524288, 7, 12);
        for (int i = 0; i < 12; i++) {
            taken(x, 2, 3);
        }
        chainIs("of twelve fifths and back", x, 1, 1, 0, 24);
    }

    private static void stepsSinceClear() {
        Check.sentence(12, "steps since it was clear (3)");
        FretRoots x = new FretRoots(12);
        for (int i = 1; i <= 100; i++) {
            x.step(1, 1);
            Check.same("rest(3) behind " + i + " steps by 1 / 1", x.rest(3), i);
        }
        x.clear();
        Check.same("rest(3), cleared", x.rest(3), 0);
        x.step(3, 2);
        x.step(2, 3);
        Check.same("rest(3), two steps and at 1 / 1", x.rest(3), 2);
    }

    private static void refusedAreNoSteps() {
        Check.sentence(12, "steps since it was clear (3)", "a refused step is none, nor is one that throws");
        FretRoots x = fifths();
        refused(x, 3, 2);
        Check.same("rest(3) behind a refused step", x.rest(3), 31);
        Check.noNumber("step(0, 1)", () -> x.step(0, 1));
        Check.noNumber("step(1, 1000001)", () -> x.step(1, 1000001));
        Check.same("rest(3) behind steps that throw", x.rest(3), 31);
        taken(x, 1, 1);
        Check.same("rest(3) behind a step", x.rest(3), 32);
    }
}
