/** Promises 1 to 4: a new object, scale, fret, exact. Each test is of one sentence of the document. */
final class FretsTest {
    public static void main(String[] args) {
        Check.each(FretsTest::notesAsGiven, FretsTest::notesTooFew, FretsTest::notesTooMany, FretsTest::firstLength,
            FretsTest::firstShift, FretsTest::firstJustRow, FretsTest::firstChain, FretsTest::firstFan,
            FretsTest::constant, FretsTest::scaleIsSet, FretsTest::lengthsTaken, FretsTest::shiftsTaken,
            FretsTest::scaleOfOthers, FretsTest::fretsThere, FretsTest::frets, FretsTest::lowerEndThatMeets,
            FretsTest::lowerEndHardlyReached, FretsTest::lowerEndHardlyMissed, FretsTest::lowerEndOfLeast,
            FretsTest::lowerEndOfGreatest, FretsTest::upperEndTheSame, FretsTest::upperEndOneMore,
            FretsTest::exactFretsThere, FretsTest::exact, FretsTest::exactAtOctaves, FretsTest::exactNever);
        Check.end("FretsTest");
    }

    /** Frets 0 .. 2 n are there and no more; the last one leaves a quarter. */
    private static void hasNotes(int given, int n) {
        FretRoots x = new FretRoots(given);
        String name = "new FretRoots(" + given + ")";
        Check.same(name + ", fret " + n, x.fret(n, false), 128000);
        Check.same(name + ", fret " + 2 * n, x.fret(2 * n, false), 64000);
        Check.noPlace(name + ", fret " + (2 * n + 1), () -> x.fret(2 * n + 1, false));
        Check.fine(name + ", just place " + 2 * n, () -> x.just(2 * n, 3, 2));
        Check.noPlace(name + ", just place " + (2 * n + 1), () -> x.just(2 * n + 1, 3, 2));
        Check.same(name + ", nearest to 4 / 1", x.nearest(4, 1), 2 * n);
    }

    private static void notesAsGiven() {
        Check.sentence(1, "NOTES the nearest of 1 .. 24.", "each of these is its own");
        for (int notes = 1; notes <= 24; notes++) {
            hasNotes(notes, notes);
        }
    }

    private static void notesTooFew() {
        Check.sentence(1, "NOTES the nearest of 1 .. 24.", "fewer are 1");
        for (int notes : new int[] {0, -1, -12, -24, -25, Integer.MIN_VALUE + 1, Integer.MIN_VALUE}) {
            hasNotes(notes, 1);
        }
    }

    private static void notesTooMany() {
        Check.sentence(1, "NOTES the nearest of 1 .. 24.", "more are 24");
        for (int notes : new int[] {25, 26, 48, 256, 65536 + 12, Integer.MAX_VALUE - 1, Integer.MAX_VALUE}) {
            hasNotes(notes, 24);
        }
    }

    private static void firstLength() {
        Check.sentence(1, "A SCALE has LENGTH (1000 at first)");
        for (int notes : new int[] {1, 12, 24}) {
            FretRoots x = new FretRoots(notes);
            Check.same("fret(0, false) of " + notes, x.fret(0, false), 1000 * 256);
            Check.same("leaves(0) of " + notes, x.leaves(0), 1000 * 256);
        }
    }

    private static void firstShift() {
        Check.sentence(1, "and SHIFT (8 at first)");
        FretRoots x = new FretRoots(12);
        // Of length 1, a fan's ends are 2^SHIFT.
        x.fan(1, 1, 1);
        Check.same("cross(0, 0, 0)", x.cross(0, 0, 0), 256);
        Check.same("fret(24, true)", x.fret(24, true), 250 * 256);
    }

    private static void firstJustRow() {
        Check.sentence(1, "JUST row: places 0 .. 2 n have a fraction, 1 / 1 at first.");
        for (int notes : new int[] {1, 24}) {
            FretRoots x = new FretRoots(notes);
            for (int k = 0; k <= 2 * notes; k++) {
                Check.same("justAt(" + k + ", 0)", x.justAt(k, 0), 1);
                Check.same("justAt(" + k + ", 1)", x.justAt(k, 1), 1);
                Check.same("leaves(" + k + ")", x.leaves(k), 256000);
                Check.same("beside(" + k + ")", x.beside(k), k == 0 ? 0 : -1);
            }
        }
    }

    private static void firstChain() {
        Check.sentence(1, "A CHAIN is a fraction, 1 / 1 at first.");
        FretRoots x = new FretRoots(12);
        Check.same("rest(0)", x.rest(0), 1);
        Check.same("rest(1)", x.rest(1), 1);
        Check.same("rest(2)", x.rest(2), 0);
        Check.same("rest(3)", x.rest(3), 0);
    }

    private static void firstFan() {
        Check.sentence(1, "SPAN (1 at first; both lengths 1000)");
        FretRoots x = new FretRoots(12);
        Check.same("bass, cross(0, 0, 0)", x.cross(0, 0, 0), 256000);
        Check.same("treble, cross(0, 1, 0)", x.cross(0, 1, 0), 256000);
        Check.noNumber("beyond the span, cross(0, 2, 0)", () -> x.cross(0, 2, 0));
        Check.same("upright()", x.upright(), 0);
    }

    private static void constant() {
        Check.sentence(1, "public static final int NONE = -1;");
        Check.same("NONE", FretRoots.NONE, -1);
    }

    private static void scaleIsSet() {
        Check.sentence(2, "LENGTH and SHIFT.");
        FretRoots x = new FretRoots(12);
        x.scale(650, 16);
        Check.same("fret(0, false) of 650 at 16", x.fret(0, false), 650 * 65536);
        Check.same("fret(12, false) of 650 at 16", x.fret(12, false), 325 * 65536);
        Check.same("fret(1, false) of 650 at 16", x.fret(1, false), 40207535);
        x.scale(325, 15);
        Check.same("fret(0, true) of 325 at 15", x.fret(0, true), 325 * 32768);
        Check.same("fret(1, true) of 325 at 15", x.fret(1, true), 10051884);
        Check.same("leaves(24) of 325 at 15", x.leaves(24), 325 * 32768);
        x.scale(325, 15);
        Check.same("fret(1, true), the same scale again", x.fret(1, true), 10051884);
    }

    private static void lengthsTaken() {
        Check.sentence(2, "IllegalArgumentException: length is not 1 .. 1000000");
        FretRoots x = new FretRoots(12);
        Edges.ofLong("scale(#, 0)", 1, 1000000, length -> x.scale(length, 0));
        Edges.ofLong("scale(#, 16)", 1, 1000000, length -> x.scale(length, 16));
        x.scale(1, 0);
        Check.same("fret(0, false) of length 1", x.fret(0, false), 1);
        x.scale(2, 0);
        Check.same("fret(0, false) of length 2", x.fret(0, false), 2);
        x.scale(999999, 0);
        Check.same("fret(0, false) of length 999999", x.fret(0, false), 999999);
        x.scale(1000000, 0);
        Check.same("fret(0, false) of length 1000000", x.fret(0, false), 1000000);
    }

    private static void shiftsTaken() {
        Check.sentence(2, "or shift not 0 .. 16");
        FretRoots x = new FretRoots(12);
        Edges.ofNumber("scale(1, #)", 0, 16, shift -> x.scale(1, shift));
        Edges.ofNumber("scale(1000000, #)", 0, 16, shift -> x.scale(1000000, shift));
        // Java's own shifts would take these as 0 and 16.
        for (int shift : new int[] {32, 64, 48, 80, -16, -32, -48, -64}) {
            Check.noNumber("scale(1, " + shift + ")", () -> x.scale(1, shift));
        }
        for (int shift = 0; shift <= 16; shift++) {
            x.scale(3, shift);
            Check.same("fret(0, false) of 3 at " + shift, x.fret(0, false), 3L << shift);
            Check.same("leaves(0) of 3 at " + shift, x.leaves(0), 3L << shift);
        }
    }

    private static void scaleOfOthers() {
        Check.sentence(2, "LENGTH and SHIFT.", "and nothing else");
        FretRoots x = new FretRoots(12);
        x.just(7, 3, 2);
        x.step(3, 2);
        x.fan(700, 600, 5);
        x.scale(1, 0);
        Check.same("justAt(7, 0)", x.justAt(7, 0), 3);
        Check.same("justAt(7, 1)", x.justAt(7, 1), 2);
        Check.same("rest(0)", x.rest(0), 3);
        Check.same("rest(3)", x.rest(3), 1);
        Check.same("bass, cross(0, 0, 0)", x.cross(0, 0, 0), 700);
        Check.same("treble, cross(0, 5, 0)", x.cross(0, 5, 0), 600);
    }

    private static void fretsThere() {
        Check.sentence(3, "FRET k (0 .. 2 n)", "beyond them ArrayIndexOutOfBoundsException");
        for (int notes : new int[] {1, 2, 12, 23, 24}) {
            FretRoots x = new FretRoots(notes);
            Edges.ofPlace("fret(#, false) of " + notes, 0, 2 * notes, k -> x.fret(k, false));
            Edges.ofPlace("fret(#, true) of " + notes, 0, 2 * notes, k -> x.fret(k, true));
        }
    }

    private static void endsAre(FretRoots x, String of, int k, long lower, long upper) {
        Check.same("fret(" + k + ", false) of " + of, x.fret(k, false), lower);
        Check.same("fret(" + k + ", true) of " + of, x.fret(k, true), upper);
    }

    private static void frets() {
        Check.sentence(3, "The LOWER (upper = false) or UPPER end of a fret.");
        FretRoots x = new FretRoots(12);
        long[] lower = {256000, 241631, 228070, 215269, 203187, 191783, 181019, 170859, 161269, 152218, 143675, 135611,
            128000, 120815, 114035, 107634, 101593, 95891, 90509, 85429, 80634, 76109, 71837, 67805, 64000};
        for (int k = 0; k <= 24; k++) {
            endsAre(x, "a new one", k, lower[k], k % 12 == 0 ? lower[k] : lower[k] + 1);
        }
        endsAre(x, "a new one, asked again", 1, 241631, 241632);
    }

    private static void lowerEndThatMeets() {
        Check.sentence(3, "its LOWER end is the greatest whole number w with w^n * 2^k not above (LENGTH * 2^SHIFT)^n",
            "as much is not above");
        for (int notes = 1; notes <= 24; notes++) {
            FretRoots x = new FretRoots(notes);
            for (long length : new long[] {4, 8, 999996, 1000000}) {
                x.scale(length, 0);
                Check.same("fret(0) of " + length, x.fret(0, false), length);
                Check.same("fret(" + notes + ") of " + length, x.fret(notes, false), length / 2);
                Check.same("fret(" + 2 * notes + ") of " + length, x.fret(2 * notes, false), length / 4);
            }
        }
    }

    private static void lowerEndIs(int notes, int k, int shift, long length, long lower) {
        FretRoots x = new FretRoots(notes);
        x.scale(length, shift);
        endsAre(x, notes + " notes, length " + length + " at " + shift, k, lower, lower + 1);
    }

    /** 2 * 470832^2 is 665857^2 - 1; the others are a few ten-millionths above a whole number, too. */
    private static void lowerEndHardlyReached() {
        Check.sentence(3, "the greatest whole number w with w^n * 2^k not above", "hardly reached");
        lowerEndIs(2, 1, 0, 665857, 470832);
        lowerEndIs(2, 3, 0, 665857, 235416);
        lowerEndIs(24, 12, 0, 665857, 470832);
        lowerEndIs(24, 36, 0, 665857, 235416);
        lowerEndIs(2, 1, 16, 658696, 30524598409L);
        lowerEndIs(5, 2, 16, 910475, 45220562236L);
        lowerEndIs(12, 1, 16, 753098, 46584945517L);
        lowerEndIs(12, 23, 16, 54488, 945815963);
        lowerEndIs(23, 45, 16, 250071, 4222518206L);
        lowerEndIs(24, 1, 16, 562813, 35834482288L);
        lowerEndIs(24, 47, 0, 308543, 79396);
    }

    /** 2 * 665857^2 is 941664^2 + 2; at the others a double's own powers would already be one above. */
    private static void lowerEndHardlyMissed() {
        Check.sentence(3, "the greatest whole number w with w^n * 2^k not above", "hardly missed");
        lowerEndIs(2, 1, 0, 941664, 665856);
        lowerEndIs(24, 12, 0, 941664, 665856);
        lowerEndIs(2, 3, 0, 551614, 195024);
        lowerEndIs(2, 1, 16, 958487, 44417198153L);
        lowerEndIs(5, 2, 16, 157284, 7811824498L);
        lowerEndIs(12, 1, 16, 729035, 45096462551L);
        lowerEndIs(12, 7, 16, 296740, 12979417196L);
        lowerEndIs(12, 23, 16, 954253, 16564155779L);
        lowerEndIs(23, 11, 16, 675599, 31783232232L);
        lowerEndIs(24, 1, 16, 987474, 62872782900L);
        lowerEndIs(24, 47, 16, 181615, 3062771313L);
    }

    private static void lowerEndOfLeast() {
        Check.sentence(3, "the greatest whole number w", "0 of what is less than 1");
        for (int notes : new int[] {1, 2, 12, 24}) {
            FretRoots x = new FretRoots(notes);
            x.scale(1, 0);
            endsAre(x, "length 1", 0, 1, 1);
            for (int k = 1; k <= 2 * notes; k++) {
                endsAre(x, "length 1", k, 0, 1);
            }
        }
    }

    private static void lowerEndOfGreatest() {
        Check.sentence(3, "(LENGTH * 2^SHIFT)^n", "the greatest");
        FretRoots x = new FretRoots(24);
        x.scale(1000000, 16);
        endsAre(x, "1000000 at 16", 0, 65536000000L, 65536000000L);
        endsAre(x, "1000000 at 16", 1, 63670317295L, 63670317296L);
        endsAre(x, "1000000 at 16", 23, 33728175690L, 33728175691L);
        endsAre(x, "1000000 at 16", 24, 32768000000L, 32768000000L);
        endsAre(x, "1000000 at 16", 25, 31835158647L, 31835158648L);
        endsAre(x, "1000000 at 16", 47, 16864087845L, 16864087846L);
        endsAre(x, "1000000 at 16", 48, 16384000000L, 16384000000L);
    }

    private static void upperEndTheSame() {
        Check.sentence(3, "its UPPER one w, if these are the same");
        FretRoots x = new FretRoots(3);
        x.scale(1, 0);
        Check.same("fret(0, true) of 1", x.fret(0, true), 1);
        x.scale(2, 0);
        Check.same("fret(3, true) of 2", x.fret(3, true), 1);
        x.scale(4, 0);
        Check.same("fret(6, true) of 4", x.fret(6, true), 1);
        x.scale(1, 2);
        Check.same("fret(6, true) of 1 at 2", x.fret(6, true), 1);
    }

    private static void upperEndOneMore() {
        Check.sentence(3, "else w + 1.");
        FretRoots x = new FretRoots(3);
        x.scale(1, 0);
        Check.same("fret(3, true) of 1", x.fret(3, true), 1);
        Check.same("fret(6, true) of 1", x.fret(6, true), 1);
        x.scale(7, 0);
        Check.same("fret(3, true) of 7", x.fret(3, true), 4);
        Check.same("fret(6, true) of 7", x.fret(6, true), 2);
        x.scale(6, 0);
        Check.same("fret(6, true) of 6", x.fret(6, true), 2);
        x.scale(5, 0);
        Check.same("fret(6, true) of 5", x.fret(6, true), 2);
        Check.same("fret(1, true) of 5", x.fret(1, true), 4);
    }

    private static void exactFretsThere() {
        Check.sentence(4, "FRET k (0 .. 2 n)", "beyond them ArrayIndexOutOfBoundsException");
        for (int notes : new int[] {1, 2, 12, 23, 24}) {
            FretRoots x = new FretRoots(notes);
            Edges.ofPlace("exact(#) of " + notes, 0, 2 * notes, x::exact);
        }
    }

    private static void exact() {
        Check.sentence(4, "Whether a fret's ends are the same.");
        FretRoots x = new FretRoots(12);
        for (int k = 0; k <= 24; k++) {
            Check.same("exact(" + k + ")", x.exact(k), k % 12 == 0);
            Check.same("exact(" + k + ") as fret has it", x.exact(k), x.fret(k, false) == x.fret(k, true));
        }
    }

    private static void exactAtOctaves() {
        Check.sentence(4, "Whether a fret's ends are the same.", "at 1, 1 / 2 and 1 / 4 of LENGTH, if these are whole");
        for (int notes : new int[] {1, 7, 24}) {
            FretRoots x = new FretRoots(notes);
            for (int length = 1; length <= 9; length++) {
                x.scale(length, 0);
                Check.same("exact(0) of " + length, x.exact(0), true);
                Check.same("exact(" + notes + ") of " + length, x.exact(notes), length % 2 == 0);
                Check.same("exact(" + 2 * notes + ") of " + length, x.exact(2 * notes), length % 4 == 0);
            }
            x.scale(1, 1);
            Check.same("exact(" + notes + ") of 1 at 1", x.exact(notes), true);
            Check.same("exact(" + 2 * notes + ") of 1 at 1", x.exact(2 * notes), false);
            x.scale(999999, 2);
            Check.same("exact(" + 2 * notes + ") of 999999 at 2", x.exact(2 * notes), true);
        }
    }

    private static void exactNever() {
        Check.sentence(4, "Whether a fret's ends are the same.", "hardly apart is not the same");
        int[][] hardly = {{2, 1, 665857, 0}, {2, 1, 941664, 0}, {24, 12, 665857, 0}, {12, 1, 729035, 16},
            {24, 47, 181615, 16}, {12, 1, 753098, 16}};
        for (int[] h : hardly) {
            FretRoots x = new FretRoots(h[0]);
            x.scale(h[2], h[3]);
            Check.same("exact(" + h[1] + ") of " + h[2] + " at " + h[3], x.exact(h[1]), false);
        }
    }
}
