/** Promises 17 to 19: key, pull, pipe. Each test is of one sentence of the document. */
final class KeysAndPipesTest {
    private static final int[] WHITE = {0, 2, 4, 5, 7, 9, 11};
    private static final int[] DARK = {1, 3, 6, 8, 10};

    public static void main(String[] args) {
        Check.each(KeysAndPipesTest::notesThere, KeysAndPipesTest::partsThere, KeysAndPipesTest::wideTaken,
            KeysAndPipesTest::whiteKeys, KeysAndPipesTest::whiteKeysSideBySide, KeysAndPipesTest::darkKeys,
            KeysAndPipesTest::keyParts, KeysAndPipesTest::keysOfLeast, KeysAndPipesTest::keysOfGreatest,
            KeysAndPipesTest::pullHertz, KeysAndPipesTest::pullLength, KeysAndPipesTest::pullWeight,
            KeysAndPipesTest::pull, KeysAndPipesTest::pullOfNothing, KeysAndPipesTest::pullOfGreatest,
            KeysAndPipesTest::pipeHertz, KeysAndPipesTest::pipeMouth, KeysAndPipesTest::openPipe,
            KeysAndPipesTest::closedPipe, KeysAndPipesTest::pipeOfEdges);
        Check.end("KeysAndPipesTest");
    }

    private static void notesThere() {
        Check.sentence(17, "ArrayIndexOutOfBoundsException: no such note (0 .. 11), what", "note");
        FretRoots x = new FretRoots(5);
        for (int what = 0; what < 4; what++) {
            int asked = what;
            Edges.ofPlace("key(#, 165, " + what + ")", 0, 11, note -> x.key(note, 165, asked));
        }
        FretRoots most = new FretRoots(24);
        Edges.ofPlace("key(#, 165, 0), however many notes a scale has", 0, 11, note -> most.key(note, 165, 0));
    }

    private static void partsThere() {
        Check.sentence(17, "ArrayIndexOutOfBoundsException: no such note (0 .. 11), what", "what");
        FretRoots x = new FretRoots(5);
        Edges.ofPlace("key(0, 165, #)", 0, 3, what -> x.key(0, 165, what));
        Edges.ofPlace("key(1, 165, #)", 0, 3, what -> x.key(1, 165, what));
        Edges.ofPlace("key(11, 165, #)", 0, 3, what -> x.key(11, 165, what));
    }

    private static void wideTaken() {
        Check.sentence(17, "IllegalArgumentException: wide is not 1 .. 1000000.");
        FretRoots x = new FretRoots(5);
        for (int what = 0; what < 4; what++) {
            int asked = what;
            Edges.ofLong("key(0, #, " + what + ")", 1, 1000000, wide -> x.key(0, wide, asked));
            Edges.ofLong("key(10, #, " + what + ")", 1, 1000000, wide -> x.key(10, wide, asked));
        }
    }

    private static void keyIs(int note, long wide, long from, long to, long parts, long dark) {
        FretRoots x = new FretRoots(5);
        String name = "key(" + note + ", " + wide + ", ";
        Check.same(name + "0)", x.key(note, wide, 0), from);
        Check.same(name + "1)", x.key(note, wide, 1), to);
        Check.same(name + "2)", x.key(note, wide, 2), parts);
        Check.same(name + "3)", x.key(note, wide, 3), dark);
    }

    private static void whiteKeys() {
        Check.sentence(17, "seven WHITE ones side by side, the i-th (0 .. 6) from WIDE * i / 7 to WIDE * (i + 1) / 7");
        keyIs(0, 165, 0, 1980, 84, 0);
        keyIs(2, 165, 1980, 3960, 84, 0);
        keyIs(4, 165, 3960, 5940, 84, 0);
        keyIs(5, 165, 5940, 7920, 84, 0);
        keyIs(7, 165, 7920, 9900, 84, 0);
        keyIs(9, 165, 9900, 11880, 84, 0);
        keyIs(11, 165, 11880, 13860, 84, 0);
    }

    private static void whiteKeysSideBySide() {
        Check.sentence(17, "seven WHITE ones side by side", "from 0 to WIDE");
        FretRoots x = new FretRoots(5);
        for (long wide : new long[] {1, 7, 165, 1000000}) {
            long edge = 0;
            for (int note : WHITE) {
                Check.same("key(" + note + ", " + wide + ", 0)", x.key(note, wide, 0), edge);
                edge = x.key(note, wide, 1);
            }
            Check.same("key(11, " + wide + ", 1)", edge, wide * 84);
        }
    }

    private static void darkKeys() {
        Check.sentence(17, "five DARK ones (1, 3, 6, 8, 10 of twelve notes) each WIDE / 12 wide with its "
            + "middle at WIDE * (2 j + 1) / 24");
        keyIs(1, 165, 330, 660, 24, 1);
        keyIs(3, 165, 990, 1320, 24, 1);
        keyIs(6, 165, 1980, 2310, 24, 1);
        keyIs(8, 165, 2640, 2970, 24, 1);
        keyIs(10, 165, 3300, 3630, 24, 1);
    }

    private static void keyParts() {
        Check.sentence(17, "their denominator (2): 84 for white, 24 for dark ones, WIDE being told by the "
            + "numerators; 1 for dark ones, else 0 (3).");
        FretRoots x = new FretRoots(5);
        for (int note : WHITE) {
            Check.same("key(" + note + ", 7, 2)", x.key(note, 7, 2), 84);
            Check.same("key(" + note + ", 7, 3)", x.key(note, 7, 3), 0);
        }
        for (int note : DARK) {
            Check.same("key(" + note + ", 7, 2)", x.key(note, 7, 2), 24);
            Check.same("key(" + note + ", 7, 3)", x.key(note, 7, 3), 1);
        }
    }

    private static void keysOfLeast() {
        Check.sentence(17, "WIDE being told by the numerators", "the least, 1");
        for (int i = 0; i < WHITE.length; i++) {
            keyIs(WHITE[i], 1, 12 * i, 12 * i + 12, 84, 0);
        }
        for (int note : DARK) {
            keyIs(note, 1, 2 * note, 2 * note + 2, 24, 1);
        }
    }

    private static void keysOfGreatest() {
        Check.sentence(17, "WIDE being told by the numerators", "the greatest, 1000000");
        keyIs(0, 1000000, 0, 12000000, 84, 0);
        keyIs(11, 1000000, 72000000, 84000000, 84, 0);
        keyIs(1, 1000000, 2000000, 4000000, 24, 1);
        keyIs(10, 1000000, 20000000, 22000000, 24, 1);
    }

    private static void pullHertz() {
        Check.sentence(18, "IllegalArgumentException: one is not 0 .. 10000.", "hertz");
        FretRoots x = new FretRoots(5);
        Edges.ofReal("pull(#, 1, 1)", 0.0, 10000.0, hertz -> x.pull(hertz, 1.0, 1.0));
        Edges.ofReal("pull(#, 10000, 0)", 0.0, 10000.0, hertz -> x.pull(hertz, 10000.0, 0.0));
        Check.same("pull(10000, 1, 1)", x.pull(10000.0, 1.0, 1.0), 4e8);
    }

    private static void pullLength() {
        Check.sentence(18, "IllegalArgumentException: one is not 0 .. 10000.", "length");
        FretRoots x = new FretRoots(5);
        Edges.ofReal("pull(1, #, 1)", 0.0, 10000.0, length -> x.pull(1.0, length, 1.0));
        Edges.ofReal("pull(0, #, 10000)", 0.0, 10000.0, length -> x.pull(0.0, length, 10000.0));
        Check.same("pull(1, 10000, 1)", x.pull(1.0, 10000.0, 1.0), 4e8);
    }

    private static void pullWeight() {
        Check.sentence(18, "IllegalArgumentException: one is not 0 .. 10000.", "weight");
        FretRoots x = new FretRoots(5);
        Edges.ofReal("pull(1, 1, #)", 0.0, 10000.0, weight -> x.pull(1.0, 1.0, weight));
        Edges.ofReal("pull(10000, 0, #)", 0.0, 10000.0, weight -> x.pull(10000.0, 0.0, weight));
        Check.same("pull(1, 1, 10000)", x.pull(1.0, 1.0, 10000.0), 40000.0);
    }

    /** The last two answer otherwise if another order multiplies. */
    private static void pull() {
        Check.sentence(18, "A string's pull: 4 * weight * length * length * hertz * hertz (from the left on).");
        FretRoots x = new FretRoots(5);
        Check.same("pull(3520, 5, 1)", x.pull(3520.0, 5.0, 1.0), 1.23904E9);
        Check.same("pull(2, 3, 5)", x.pull(2.0, 3.0, 5.0), 720.0);
        double[][] asked = {{0.1, 0.3, 0.7}, {0.7, 0.1, 0.3}, {440.1, 0.65, 0.0011}, {329.63, 0.648, 0.00037}};
        for (double[] a : asked) {
            double due = 4 * a[2];
            due = due * a[1];
            due = due * a[1];
            due = due * a[0];
            due = due * a[0];
            Check.same("pull(" + a[0] + ", " + a[1] + ", " + a[2] + ")", x.pull(a[0], a[1], a[2]), due);
        }
        Check.same("pull(1e-200, 10000, 10000)", x.pull(1e-200, 10000.0, 10000.0), 0.0);
        Check.same("pull(10000, 10000, 4.9e-324)", x.pull(10000.0, 10000.0, Double.MIN_VALUE), 1.9762625833649862E-307);
    }

    private static void pullOfNothing() {
        Check.sentence(18, "one is not 0 .. 10000", "0 is, and pulls nothing");
        FretRoots x = new FretRoots(5);
        Check.same("pull(0, 10000, 10000)", x.pull(0.0, 10000.0, 10000.0), 0.0);
        Check.same("pull(10000, 0, 10000)", x.pull(10000.0, 0.0, 10000.0), 0.0);
        Check.same("pull(10000, 10000, 0)", x.pull(10000.0, 10000.0, 0.0), 0.0);
        Check.same("pull(0, 0, 0)", x.pull(0.0, 0.0, 0.0), 0.0);
    }

    private static void pullOfGreatest() {
        Check.sentence(18, "one is not 0 .. 10000", "10000 is");
        FretRoots x = new FretRoots(5);
        Check.same("pull(10000, 10000, 10000)", x.pull(10000.0, 10000.0, 10000.0), 4e20);
    }

    private static void pipeHertz() {
        Check.sentence(19, "IllegalArgumentException: hertz is not 1 .. 10000");
        FretRoots x = new FretRoots(5);
        Edges.ofReal("pipe(#, true, 0)", 1.0, 10000.0, hertz -> x.pipe(hertz, true, 0.0));
        Edges.ofReal("pipe(#, false, 100)", 1.0, 10000.0, hertz -> x.pipe(hertz, false, 100.0));
        Check.noNumber("pipe(0, true, 0)", () -> x.pipe(0.0, true, 0.0));
        Check.noNumber("pipe(-0, false, 0)", () -> x.pipe(-0.0, false, 0.0));
    }

    private static void pipeMouth() {
        Check.sentence(19, "or mouth not 0 .. 100.");
        FretRoots x = new FretRoots(5);
        Edges.ofReal("pipe(1, true, #)", 0.0, 100.0, mouth -> x.pipe(1.0, true, mouth));
        Edges.ofReal("pipe(10000, false, #)", 0.0, 100.0, mouth -> x.pipe(10000.0, false, mouth));
    }

    private static void openPipe() {
        Check.sentence(19, "A pipe's length: 340 / hertz / 2 (open) or / 4, less 0.75 * mouth.", "open");
        FretRoots x = new FretRoots(5);
        Check.same("pipe(170, true, 0)", x.pipe(170.0, true, 0.0), 1.0);
        Check.same("pipe(85, true, 4)", x.pipe(85.0, true, 4.0), -1.0);
        Check.same("pipe(3520, true, 4)", x.pipe(3520.0, true, 4.0), -2.9517045454545454);
        Check.same("pipe(7, true, 0)", x.pipe(7.0, true, 0.0), 24.285714285714285);
        Check.same("pipe(440.1, true, 0.1)", x.pipe(440.1, true, 0.1), 340 / 440.1 / 2 - 0.75 * 0.1);
    }

    private static void closedPipe() {
        Check.sentence(19, "A pipe's length: 340 / hertz / 2 (open) or / 4, less 0.75 * mouth.", "not open");
        FretRoots x = new FretRoots(5);
        Check.same("pipe(170, false, 0)", x.pipe(170.0, false, 0.0), 0.5);
        Check.same("pipe(85, false, 4)", x.pipe(85.0, false, 4.0), -2.0);
        Check.same("pipe(3520, false, 4)", x.pipe(3520.0, false, 4.0), -2.975852272727273);
        Check.same("pipe(440.1, false, 0.1)", x.pipe(440.1, false, 0.1), 340 / 440.1 / 4 - 0.75 * 0.1);
    }

    private static void pipeOfEdges() {
        Check.sentence(19, "hertz is not 1 .. 10000, or mouth not 0 .. 100", "these are");
        FretRoots x = new FretRoots(5);
        Check.same("pipe(1, true, 0)", x.pipe(1.0, true, 0.0), 170.0);
        Check.same("pipe(1, false, 0)", x.pipe(1.0, false, 0.0), 85.0);
        Check.same("pipe(1, true, 100)", x.pipe(1.0, true, 100.0), 95.0);
        Check.same("pipe(1, false, 100)", x.pipe(1.0, false, 100.0), 10.0);
        Check.same("pipe(10000, true, 0)", x.pipe(10000.0, true, 0.0), 0.017);
        Check.same("pipe(10000, false, 0)", x.pipe(10000.0, false, 0.0), 0.0085);
        Check.same("pipe(10000, true, 100)", x.pipe(10000.0, true, 100.0), -74.983);
        Check.same("pipe(10000, false, 100)", x.pipe(10000.0, false, 100.0), -74.9915);
    }
}
