/** Promises 14 to 16: fan, cross, upright. Each test is of one sentence of the document. */
final class FanTest {
    public static void main(String[] args) {
        Check.each(FanTest::bassTaken, FanTest::trebleTaken, FanTest::spanTaken, FanTest::fanIsSet,
            FanTest::fanOfOthers, FanTest::shiftOfBoth, FanTest::crossFretsThere, FanTest::crossPartsThere,
            FanTest::crossWithinSpan, FanTest::crossWithinSpanOfNow, FanTest::crossAtEnds, FanTest::crossCutOff,
            FanTest::crossOfLowerEnds, FanTest::crossOfGreatest, FanTest::uprightNearest, FanTest::uprightEitherWay,
            FanTest::uprightFirst, FanTest::uprightLast, FanTest::uprightOfLowerEnds, FanTest::uprightBehindScale);
        Check.end("FanTest");
    }

    private static FretRoots fanned(int notes, int bass, int treble, int span) {
        FretRoots x = new FretRoots(notes);
        x.fan(bass, treble, span);
        return x;
    }

    private static FretRoots fannedAt(int notes, int shift, int bass, int treble) {
        FretRoots x = fanned(notes, bass, treble, 1);
        x.scale(1, shift);
        return x;
    }

    private static void bassTaken() {
        Check.sentence(14, "IllegalArgumentException: a length is not 1 .. 1000000", "the bass's");
        FretRoots x = new FretRoots(12);
        Edges.ofNumber("fan(#, 1, 1)", 1, 1000000, bass -> x.fan(bass, 1, 1));
        Edges.ofNumber("fan(#, 1000000, 1000)", 1, 1000000, bass -> x.fan(bass, 1000000, 1000));
        x.fan(1, 5, 1);
        Check.same("cross(0, 0, 0) of 1", x.cross(0, 0, 0), 256);
        x.fan(1000000, 5, 1);
        Check.same("cross(0, 0, 0) of 1000000", x.cross(0, 0, 0), 256000000);
    }

    private static void trebleTaken() {
        Check.sentence(14, "IllegalArgumentException: a length is not 1 .. 1000000", "the treble's");
        FretRoots x = new FretRoots(12);
        Edges.ofNumber("fan(1, #, 1)", 1, 1000000, treble -> x.fan(1, treble, 1));
        Edges.ofNumber("fan(1000000, #, 1000)", 1, 1000000, treble -> x.fan(1000000, treble, 1000));
        x.fan(5, 1, 1);
        Check.same("cross(0, 1, 0) of 1", x.cross(0, 1, 0), 256);
        x.fan(5, 1000000, 1);
        Check.same("cross(0, 1, 0) of 1000000", x.cross(0, 1, 0), 256000000);
    }

    private static void spanTaken() {
        Check.sentence(14, "or span not 1 .. 1000.");
        FretRoots x = new FretRoots(12);
        Edges.ofNumber("fan(1, 1, #)", 1, 1000, span -> x.fan(1, 1, span));
        Edges.ofNumber("fan(1000000, 1000000, #)", 1, 1000, span -> x.fan(1000000, 1000000, span));
        x.fan(4, 8, 1);
        Check.same("cross(0, 1, 0) of span 1", x.cross(0, 1, 0), 2048);
        x.fan(4, 8, 1000);
        Check.same("cross(0, 1, 0) of span 1000", x.cross(0, 1, 0), 1025);
        Check.same("cross(0, 1000, 0) of span 1000", x.cross(0, 1000, 0), 2048);
    }

    private static void fanIsSet() {
        Check.sentence(14, "FAN: bass and treble lengths, SPAN");
        FretRoots x = fanned(3, 700, 600, 5);
        Check.same("bass, cross(0, 0, 0)", x.cross(0, 0, 0), 179200);
        Check.same("treble, cross(0, 5, 0)", x.cross(0, 5, 0), 153600);
        Check.same("cross(1, 0, 0)", x.cross(1, 0, 0), 142231);
        x.fan(600, 700, 4);
        Check.same("bass, cross(0, 0, 0), fanned anew", x.cross(0, 0, 0), 153600);
        Check.same("treble, cross(0, 4, 0), fanned anew", x.cross(0, 4, 0), 179200);
        Check.same("cross(1, 4, 0), fanned anew", x.cross(1, 4, 0), 142231);
        x.fan(600, 600, 4);
        Check.same("treble, cross(1, 4, 0), fanned with both the same", x.cross(1, 4, 0), 121912);
    }

    private static void fanOfOthers() {
        Check.sentence(14, "FAN: bass and treble lengths, SPAN", "and nothing else");
        FretRoots x = new FretRoots(12);
        x.just(7, 3, 2);
        x.step(3, 2);
        x.fan(700, 600, 5);
        Check.same("fret(0, false)", x.fret(0, false), 256000);
        Check.same("fret(1, true)", x.fret(1, true), 241632);
        Check.same("leaves(0)", x.leaves(0), 256000);
        Check.same("justAt(7, 0)", x.justAt(7, 0), 3);
        Check.same("rest(3)", x.rest(3), 1);
    }

    private static void shiftOfBoth() {
        Check.sentence(14, "FAN: two scales beside one another, both with SHIFT", "the scale's, as it is now");
        FretRoots x = new FretRoots(1);
        x.scale(5, 0);
        Check.same("cross(0, 0, 0) of 1000 at 0", x.cross(0, 0, 0), 1000);
        Check.same("cross(0, 1, 0) of 1000 at 0", x.cross(0, 1, 0), 1000);
        x.fan(8, 4, 2);
        Check.same("cross(1, 1, 0) at 0", x.cross(1, 1, 0), 3);
        x.scale(5, 1);
        Check.same("cross(1, 1, 0) at 1", x.cross(1, 1, 0), 6);
        x.scale(6, 16);
        Check.same("cross(1, 1, 0) at 16", x.cross(1, 1, 0), 3 * 65536);
    }

    private static void crossFretsThere() {
        Check.sentence(15, "ArrayIndexOutOfBoundsException: no such fret, part", "fret");
        for (int notes : new int[] {1, 12, 24}) {
            FretRoots x = new FretRoots(notes);
            Edges.ofPlace("cross(#, 0, 0) of " + notes, 0, 2 * notes, k -> x.cross(k, 0, 0));
            Edges.ofPlace("cross(#, 1, 1) of " + notes, 0, 2 * notes, k -> x.cross(k, 1, 1));
        }
    }

    private static void crossPartsThere() {
        Check.sentence(15, "ArrayIndexOutOfBoundsException: no such fret, part", "part");
        FretRoots x = new FretRoots(12);
        Edges.ofPlace("cross(0, 0, #)", 0, 1, part -> x.cross(0, 0, part));
        Edges.ofPlace("cross(24, 1, #)", 0, 1, part -> x.cross(24, 1, part));
    }

    private static void crossWithinSpan() {
        Check.sentence(15, "IllegalArgumentException: at is not 0 .. SPAN.");
        for (int span : new int[] {1, 2, 5, 999, 1000}) {
            FretRoots x = fanned(3, 700, 600, span);
            Edges.ofNumber("cross(0, #, 0) of span " + span, 0, span, at -> x.cross(0, at, 0));
            Edges.ofNumber("cross(6, #, 1) of span " + span, 0, span, at -> x.cross(6, at, 1));
        }
    }

    private static void crossWithinSpanOfNow() {
        Check.sentence(15, "at is not 0 .. SPAN", "the SPAN of now");
        FretRoots x = fanned(3, 700, 600, 1000);
        Check.fine("cross(0, 1000, 0) of span 1000", () -> x.cross(0, 1000, 0));
        x.fan(700, 600, 2);
        Check.noNumber("cross(0, 3, 0) of span 2", () -> x.cross(0, 3, 0));
        Check.same("cross(0, 2, 0) of span 2", x.cross(0, 2, 0), 153600);
        Check.noNumber("fan(700, 600, 1001)", () -> x.fan(700, 600, 1001));
        Check.noNumber("cross(0, 3, 0) of span 2 still", () -> x.cross(0, 3, 0));
        x.fan(700, 600, 3);
        Check.same("cross(0, 3, 0) of span 3", x.cross(0, 3, 0), 153600);
    }

    private static void crossIs(FretRoots x, int k, int at, long quotient, long rest) {
        Check.same("cross(" + k + ", " + at + ", 0)", x.cross(k, at, 0), quotient);
        Check.same("cross(" + k + ", " + at + ", 1)", x.cross(k, at, 1), rest);
    }

    private static void crossAtEnds() {
        Check.sentence(15, "a fret goes from its LOWER end of the one (at 0) to that of the other (at SPAN)");
        FretRoots x = fanned(3, 700, 600, 5);
        crossIs(x, 0, 0, 179200, 0);
        crossIs(x, 0, 5, 153600, 0);
        crossIs(x, 1, 0, 142231, 0);
        crossIs(x, 1, 5, 121912, 0);
        crossIs(x, 6, 0, 44800, 0);
        crossIs(x, 6, 5, 38400, 0);
        FretRoots one = fanned(3, 3, 1000000, 1);
        crossIs(one, 0, 0, 768, 0);
        crossIs(one, 0, 1, 256000000, 0);
    }

    private static void crossCutOff() {
        Check.sentence(15, "told as quotient (cut off) and rest.");
        FretRoots x = fanned(3, 700, 600, 5);
        crossIs(x, 0, 1, 174080, 0);
        crossIs(x, 1, 1, 138167, 1);
        crossIs(x, 1, 2, 134103, 2);
        crossIs(x, 1, 3, 130039, 3);
        crossIs(x, 1, 4, 125975, 4);
        crossIs(x, 6, 2, 42240, 0);
        FretRoots least = fannedAt(1, 0, 1, 1);
        crossIs(least, 0, 0, 1, 0);
        crossIs(least, 1, 0, 0, 0);
        least.fan(1, 2, 1000);
        crossIs(least, 0, 999, 1, 999);
        crossIs(least, 1, 999, 0, 999);
        crossIs(least, 1, 1000, 1, 0);
        crossIs(least, 2, 500, 0, 0);
    }

    private static void crossOfLowerEnds() {
        Check.sentence(15, "ACROSS at a place s it lies at (bass's * (SPAN - s) + treble's * s) / SPAN",
            "of LOWER ends");
        FretRoots x = fannedAt(2, 0, 665857, 941664);
        x.fan(665857, 941664, 2);
        crossIs(x, 1, 0, 470832, 0);
        crossIs(x, 1, 1, 568344, 0);
        crossIs(x, 1, 2, 665856, 0);
        x.fan(3, 7, 4);
        crossIs(x, 4, 0, 0, 0);
        crossIs(x, 4, 3, 0, 3);
        crossIs(x, 2, 2, 2, 0);
    }

    private static void crossOfGreatest() {
        Check.sentence(15, "(bass's * (SPAN - s) + treble's * s) / SPAN", "the greatest");
        FretRoots x = fannedAt(24, 16, 1000000, 1);
        x.fan(1000000, 1, 1000);
        crossIs(x, 0, 0, 65536000000L, 0);
        crossIs(x, 0, 1, 65470464065L, 536);
        crossIs(x, 0, 1000, 65536, 0);
        x.fan(1000000, 1000000, 1000);
        crossIs(x, 0, 500, 65536000000L, 0);
        crossIs(x, 24, 999, 32768000000L, 0);
        crossIs(x, 48, 1, 16384000000L, 0);
        x.fan(1, 1000000, 999);
        crossIs(x, 0, 1, 65667072, 0);
        crossIs(x, 0, 2, 131268608, 0);
        crossIs(x, 0, 999, 65536000000L, 0);
    }

    private static void uprightNearest() {
        Check.sentence(16, "The fret at which the fanned line is straight up (both LOWER ends are nearest one another");
        Check.same("upright() of 700 and 600", fanned(3, 700, 600, 5).upright(), 6);
        Check.same("upright() of 1000000 and 1", fanned(24, 1000000, 1, 1).upright(), 48);
        // LOWER ends 9 6 4 3 2 and 8 5 4 2 2: nearest at 2, and at the last again.
        Check.same("upright() of 9 and 8 at 0", fannedAt(2, 0, 9, 8).upright(), 2);
        // LOWER ends 11 8 6 5 4 3 2 and 10 7 6 5 3 3 2.
        Check.same("upright() of 11 and 10 at 0", fannedAt(3, 0, 11, 10).upright(), 2);
    }

    private static void uprightEitherWay() {
        Check.sentence(16, "both LOWER ends are nearest one another", "whichever is the longer");
        Check.same("upright() of 600 and 700", fanned(3, 600, 700, 5).upright(), 6);
        Check.same("upright() of 1 and 1000000", fanned(24, 1, 1000000, 1).upright(), 48);
        Check.same("upright() of 8 and 9 at 0", fannedAt(2, 0, 8, 9).upright(), 2);
        Check.same("upright() of 999999 and 1000000", fanned(1, 999999, 1000000, 1000).upright(), 2);
    }

    private static void uprightFirst() {
        Check.sentence(16, "of several the first");
        for (int length : new int[] {1, 1000, 1000000}) {
            Check.same("upright() of " + length + " twice", fanned(24, length, length, 7).upright(), 0);
            Check.same("upright() of " + length + " twice at 0", fannedAt(24, 0, length, length).upright(), 0);
        }
        // LOWER ends 2 1 1 1 0 0 0 and 1 0 0 0 0 0 0.
        Check.same("upright() of 2 and 1 at 0", fannedAt(3, 0, 2, 1).upright(), 4);
        // LOWER ends 3 2 1 1 1 0 0 and 2 1 1 1 0 0 0.
        Check.same("upright() of 3 and 2 at 0", fannedAt(3, 0, 3, 2).upright(), 2);
        // LOWER ends 3 1 0 and 2 1 0.
        Check.same("upright() of 3 and 2 at 0, of 1 note", fannedAt(1, 0, 3, 2).upright(), 1);
    }

    private static void uprightLast() {
        Check.sentence(16, "The fret", "the last one, 2 n, too");
        for (int notes : new int[] {1, 2, 12, 24}) {
            FretRoots x = fanned(notes, 1000000, 999, 3);
            Check.same("upright() of " + notes + " notes", x.upright(), 2 * notes);
        }
    }

    private static void uprightOfLowerEnds() {
        Check.sentence(16, "both LOWER ends", "not the UPPER ones, nor what the frets leave");
        // UPPER ends 2 2 2 1 1 1 1 and 1 1 1 1 1 1 1 would already meet at 3.
        Check.same("upright() of 2 and 1 at 0", fannedAt(3, 0, 2, 1).upright(), 4);
        // LOWER ends 5 2 1 and 4 2 1, UPPER ones 5 3 2 and 4 2 1.
        Check.same("upright() of 5 and 4 at 0", fannedAt(1, 0, 5, 4).upright(), 1);
    }

    private static void uprightBehindScale() {
        Check.sentence(16, "both LOWER ends are nearest one another", "with SHIFT as it is now");
        FretRoots x = new FretRoots(3);
        x.fan(3, 2, 1);
        Check.same("upright() at 8", x.upright(), 6);
        x.scale(1000, 0);
        Check.same("upright() at 0", x.upright(), 2);
        x.scale(1000, 16);
        Check.same("upright() at 16", x.upright(), 6);
        x.fan(5, 5, 1);
        Check.same("upright() of 5 twice", x.upright(), 0);
    }
}
