/**
 * Runs of calls on fresh objects, the class against the Model. The numbers come from a row that is
 * made here, always the same, with many at the edges and many beyond.
 */
final class ModelTest {
    private static final int RUNS = 1000;
    /** One call here may look four more times; an object is promised for 512 calls. */
    private static final int CALLS = 100;
    private static final String PLACE = "ArrayIndexOutOfBoundsException";
    private static final String NUMBER = "IllegalArgumentException";

    private static long seed = 20261118;

    public static void main(String[] args) {
        for (int run = 0; run < RUNS; run++) {
            int notes = pick(-2, 27);
            FretRoots x = new FretRoots(notes);
            Model m = new Model(notes);
            for (int call = 0; call < CALLS; call++) {
                one("run " + run + " (" + notes + " notes) call " + call, x, m);
            }
        }
        everyFret();
        Check.end("ModelTest");
    }

    private static int pick(int least, int most) {
        seed = seed * 6364136223846793005L + 1442695040888963407L;
        return least + (int) ((seed >>> 33) % ((long) most - least + 1));
    }

    /** Mostly within 1 .. most, or at its edges; one in twenty beyond. */
    private static int number(int most) {
        int[] edges = {1, 2, 3, most - 1, most, most / 2, 1024 % most + 1};
        int[] beyond = {0, -1, most + 1, Integer.MIN_VALUE, Integer.MAX_VALUE};
        switch (pick(0, 19)) {
            case 0:
                return beyond[pick(0, 4)];
            case 1, 2, 3:
                return edges[pick(0, 6)];
            case 4, 5, 6, 7, 8, 9, 10:
                return pick(1, Math.min(most, 50));
            default:
                return pick(1, most);
        }
    }

    /** Mostly within 0 .. most; one in twenty beyond. */
    private static int place(int most) {
        return number(most + 1) - 1;
    }

    private static boolean within(long number, long least, long most) {
        return number >= least && number <= most;
    }

    private static String due(boolean places, boolean numbers) {
        return !places ? PLACE : !numbers ? NUMBER : "nothing";
    }

    /** Looks at the exception first; tells whether there is an answer to look at. */
    private static boolean answers(String call, String due, Check.Call made) {
        Check.same(call, Check.outcome(made), due);
        return due.equals("nothing");
    }

    private static void one(String at, FretRoots x, Model m) {
        int last = 2 * m.n;
        switch (pick(0, 15)) {
            case 0 -> fret(at, x, m, place(last), pick(0, 1) == 1);
            case 1 -> scale(at, x, m, number(1000000), place(16));
            case 2, 3 -> just(at, x, m, place(last), number(1000000), number(1000000));
            case 4 -> justRow(at, x, m, place(last), place(1));
            case 5 -> nearest(at, x, m, number(1000000), number(1000000));
            case 6, 7, 8, 9 -> step(at, x, m, number(1000000), number(1000000));
            case 10 -> clearOrRest(at, x, m, pick(0, 30));
            case 11 -> beat(at, x, m, place(last), place(last), number(100000), place(1));
            case 12 -> fan(at, x, m, number(1000000), number(1000000), number(1000));
            case 13 -> cross(at, x, m, place(last), place(m.span), place(1));
            case 14 -> upright(at, x, m);
            default -> key(at, x, place(11), number(1000000), place(3));
        }
    }

    private static void fret(String at, FretRoots x, Model m, int k, boolean upper) {
        String name = at + ": fret(" + k + ", " + upper + ")";
        String due = due(within(k, 0, 2 * m.n), true);
        Check.same(name + " and exact", Check.outcome(() -> x.exact(k)), due);
        if (answers(name, due, () -> x.fret(k, upper))) {
            Check.same(name, x.fret(k, upper), m.fret(k, upper));
            Check.same(name + " and exact", x.exact(k), m.exact(k));
        }
    }

    private static void scale(String at, FretRoots x, Model m, int length, int shift) {
        String due = due(true, within(length, 1, 1000000) && within(shift, 0, 16));
        if (answers(at + ": scale(" + length + ", " + shift + ")", due, () -> x.scale(length, shift))) {
            m.length = length;
            m.shift = shift;
        }
    }

    private static void just(String at, FretRoots x, Model m, int k, int a, int b) {
        String due = due(within(k, 0, 2 * m.n), within(a, 1, 1000000) && within(b, 1, 1000000));
        if (answers(at + ": just(" + k + ", " + a + ", " + b + ")", due, () -> x.just(k, a, b))) {
            m.just(k, a, b);
        }
    }

    private static void justRow(String at, FretRoots x, Model m, int k, int part) {
        String name = at + ": justAt(" + k + ", " + part + ")";
        boolean there = within(k, 0, 2 * m.n);
        if (answers(name, due(there && within(part, 0, 1), true), () -> x.justAt(k, part))) {
            Check.same(name, x.justAt(k, part), part == 0 ? m.above[k] : m.below[k]);
        }
        Check.same(name + " and beside", Check.outcome(() -> x.beside(k)), due(there, true));
        Check.same(name + " and leaves", Check.outcome(() -> x.leaves(k)), due(there, true));
        if (there) {
            Check.same(name + " and beside", x.beside(k), m.beside(k));
            Check.same(name + " and leaves", x.leaves(k), m.leaves(k));
        }
    }

    private static void nearest(String at, FretRoots x, Model m, int a, int b) {
        String name = at + ": nearest(" + a + ", " + b + ")";
        String due = due(true, within(a, 1, 1000000) && within(b, 1, 1000000));
        if (answers(name, due, () -> x.nearest(a, b))) {
            Check.same(name, x.nearest(a, b), m.nearest(a, b));
        }
    }

    private static void step(String at, FretRoots x, Model m, int a, int b) {
        String name = at + ": step(" + a + ", " + b + ")";
        if (!within(a, 1, 1000000) || !within(b, 1, 1000000)) {
            Check.noNumber(name, () -> x.step(a, b));
            return;
        }
        Check.same(name, x.step(a, b), m.step(a, b));
        for (int part = 0; part < 4; part++) {
            Check.same(name + " and rest(" + part + ")", x.rest(part), m.rest(part));
        }
    }

    private static void clearOrRest(String at, FretRoots x, Model m, int choice) {
        if (choice == 0) {
            x.clear();
            m.clear();
        }
        int part = place(3);
        String name = at + ": rest(" + part + ")";
        if (answers(name, due(within(part, 0, 3), true), () -> x.rest(part))) {
            Check.same(name, x.rest(part), m.rest(part));
        }
    }

    private static void beat(String at, FretRoots x, Model m, int a, int b, int hertz, int part) {
        String name = at + ": beat(" + a + ", " + b + ", " + hertz + ", " + part + ")";
        boolean places = within(a, 0, 2 * m.n) && within(b, 0, 2 * m.n) && within(part, 0, 1);
        if (answers(name, due(places, within(hertz, 1, 100000)), () -> x.beat(a, b, hertz, part))) {
            Check.same(name, x.beat(a, b, hertz, part), m.beat(a, b, hertz, part));
        }
    }

    private static void fan(String at, FretRoots x, Model m, int bass, int treble, int span) {
        String due = due(true, within(bass, 1, 1000000) && within(treble, 1, 1000000) && within(span, 1, 1000));
        String name = at + ": fan(" + bass + ", " + treble + ", " + span + ")";
        if (answers(name, due, () -> x.fan(bass, treble, span))) {
            m.bass = bass;
            m.treble = treble;
            m.span = span;
        }
    }

    private static void cross(String at, FretRoots x, Model m, int k, int s, int part) {
        String name = at + ": cross(" + k + ", " + s + ", " + part + ")";
        boolean places = within(k, 0, 2 * m.n) && within(part, 0, 1);
        if (answers(name, due(places, within(s, 0, m.span)), () -> x.cross(k, s, part))) {
            Check.same(name, x.cross(k, s, part), m.cross(k, s, part));
        }
    }

    private static void upright(String at, FretRoots x, Model m) {
        // The Model is slow here, and a small fan has more frets with the same slant.
        if (pick(0, 3) == 0) {
            int bass = pick(1, 40);
            int treble = Math.max(1, bass + pick(-2, 2));
            fan(at, x, m, bass, treble, 3);
            scale(at, x, m, 1000, pick(0, 3));
            Check.same(at + ": upright()", x.upright(), m.upright());
        }
    }

    private static void key(String at, FretRoots x, int note, int wide, int what) {
        String name = at + ": key(" + note + ", " + wide + ", " + what + ")";
        boolean places = within(note, 0, 11) && within(what, 0, 3);
        if (answers(name, due(places, within(wide, 1, 1000000)), () -> x.key(note, wide, what))) {
            Check.same(name, x.key(note, wide, what), Model.key(note, wide, what));
        }
    }

    /** Every fret of every number of notes at lengths with long and with short ends. */
    private static void everyFret() {
        int[][] scales = {{1, 0}, {2, 0}, {7, 1}, {999983, 16}, {1000000, 16}, {1000000, 15}, {1, 16}};
        for (int notes = 1; notes <= 24; notes++) {
            for (int[] s : scales) {
                FretRoots x = new FretRoots(notes);
                Model m = new Model(notes);
                scale("every fret", x, m, s[0], s[1]);
                for (int k = 0; k <= 2 * notes; k++) {
                    fret(notes + " notes, length " + s[0] + ", shift " + s[1], x, m, k, k % 2 == 0);
                }
            }
        }
    }
}
