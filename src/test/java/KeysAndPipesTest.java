/** Promises 17 to 19: key, pull, pipe. */
final class KeysAndPipesTest {
    public static void main(String[] args) {
        whiteKeys();
        darkKeys();
        wrongKeys();
        pull();
        pipe();
        Check.end("KeysAndPipesTest");
    }

    private static void keyIs(int note, long wide, long from, long to, long parts, long dark) {
        FretRoots x = new FretRoots(5);
        String name = "key " + note + " of " + wide;
        Check.same(name + ", left", x.key(note, wide, 0), from);
        Check.same(name + ", right", x.key(note, wide, 1), to);
        Check.same(name + ", parts", x.key(note, wide, 2), parts);
        Check.same(name + ", dark", x.key(note, wide, 3), dark);
    }

    private static void whiteKeys() {
        int[] notes = {0, 2, 4, 5, 7, 9, 11};
        for (int i = 0; i < notes.length; i++) {
            keyIs(notes[i], 165, 165L * 12 * i, 165L * 12 * (i + 1), 84, 0);
            keyIs(notes[i], 1, 12 * i, 12 * (i + 1), 84, 0);
        }
        keyIs(11, 1000000, 72000000, 84000000, 84, 0);
    }

    private static void darkKeys() {
        int[] notes = {1, 3, 6, 8, 10};
        for (int note : notes) {
            keyIs(note, 165, 165L * 2 * note, 165L * (2 * note + 2), 24, 1);
            keyIs(note, 1, 2 * note, 2 * note + 2, 24, 1);
        }
        keyIs(10, 1000000, 20000000, 22000000, 24, 1);
    }

    private static void wrongKeys() {
        FretRoots x = new FretRoots(5);
        Check.noPlace("note 12 goes first", () -> x.key(12, 0, 0));
        Check.noPlace("note -1", () -> x.key(-1, 165, 0));
        Check.noPlace("the least note", () -> x.key(Integer.MIN_VALUE, 165, 0));
        Check.noPlace("what 4 goes first", () -> x.key(0, 0, 4));
        Check.noPlace("what -1", () -> x.key(0, 165, -1));
        Check.noNumber("wide 0", () -> x.key(0, 0, 3));
        Check.noNumber("wide 1000001", () -> x.key(1, 1000001, 2));
        Check.noNumber("wide beyond int", () -> x.key(0, (1L << 32) + 1, 0));
        Check.noNumber("the least wide", () -> x.key(0, Long.MIN_VALUE, 0));
    }

    private static void pull() {
        FretRoots x = new FretRoots(5);
        Check.same("pull", x.pull(3520.0, 5.0, 1.0), 1.23904E9);
        Check.same("pull from the left on", x.pull(0.1, 0.3, 0.7), 4 * 0.7 * 0.3 * 0.3 * 0.1 * 0.1);
        Check.same("pull of nothing", x.pull(0.0, 10000.0, 10000.0), 0.0);
        Check.same("greatest pull", x.pull(10000.0, 10000.0, 10000.0), 4e20);
        double[] wrong = {-0.5, -Double.MIN_VALUE, 10000.000000000002, Double.NaN, Double.POSITIVE_INFINITY,
            Double.NEGATIVE_INFINITY};
        for (double w : wrong) {
            Check.noNumber("pull hertz " + w, () -> x.pull(w, 1.0, 1.0));
            Check.noNumber("pull length " + w, () -> x.pull(1.0, w, 1.0));
            Check.noNumber("pull weight " + w, () -> x.pull(1.0, 1.0, w));
        }
    }

    private static void pipe() {
        FretRoots x = new FretRoots(5);
        Check.same("open pipe", x.pipe(3520.0, true, 4.0), -2.9517045454545454);
        Check.same("closed pipe", x.pipe(3520.0, false, 4.0), -2.975852272727273);
        Check.same("open pipe without a mouth", x.pipe(7.0, true, 0.0), 24.285714285714285);
        Check.same("lowest pipe", x.pipe(1.0, false, 100.0), 10.0);
        Check.same("highest pipe", x.pipe(10000.0, true, 0.0), 0.017);
        double[] wrong = {0.9999999999999999, 0.0, -440.0, 10000.000000000002, Double.NaN, Double.POSITIVE_INFINITY};
        for (double w : wrong) {
            Check.noNumber("pipe hertz " + w, () -> x.pipe(w, true, 1.0));
        }
        double[] mouths = {-Double.MIN_VALUE, -1.0, 100.00000000000001, Double.NaN, Double.NEGATIVE_INFINITY};
        for (double w : mouths) {
            Check.noNumber("pipe mouth " + w, () -> x.pipe(440.0, false, w));
        }
    }
}
