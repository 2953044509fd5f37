/** Promises 1 to 4: a new object, scale, fret, exact. */
final class FretsTest {
    public static void main(String[] args) {
        newObject();
        newObjectsState();
        scale();
        fret();
        exact();
        Check.end("FretsTest");
    }

    private static void newObject() {
        int[][] given = {{Integer.MIN_VALUE, 1}, {-1, 1}, {0, 1}, {1, 1}, {2, 2}, {12, 12}, {23, 23}, {24, 24},
            {25, 24}, {Integer.MAX_VALUE, 24}};
        for (int[] pair : given) {
            FretRoots x = new FretRoots(pair[0]);
            int last = 2 * pair[1];
            String name = "notes " + pair[0];
            Check.same(name + " last fret", x.fret(last, false), 64000);
            Check.same(name + " octave", x.fret(pair[1], true), 128000);
            Check.noPlace(name + " after the last", () -> x.fret(last + 1, false));
        }
        Check.same("NONE", FretRoots.NONE, -1);
    }

    private static void newObjectsState() {
        FretRoots x = new FretRoots(2);
        for (int k = 0; k <= 4; k++) {
            Check.same("first above " + k, x.justAt(k, 0), 1);
            Check.same("first below " + k, x.justAt(k, 1), 1);
            Check.same("first leaves " + k, x.leaves(k), 256000);
        }
        Check.same("first chain's numerator", x.rest(0), 1);
        Check.same("first chain's denominator", x.rest(1), 1);
        Check.same("first chain's octaves", x.rest(2), 0);
        Check.same("first chain's steps", x.rest(3), 0);
        Check.same("first fan, bass", x.cross(0, 0, 0), 256000);
        Check.same("first fan, treble", x.cross(0, 1, 0), 256000);
        Check.noNumber("first span is 1", () -> x.cross(0, 2, 0));
        Check.same("first fan is upright at", x.upright(), 0);
    }

    private static void scale() {
        FretRoots x = new FretRoots(12);
        x.scale(650, 16);
        Check.same("650 at 16", x.fret(0, false), 42598400);
        Check.noNumber("length 0", () -> x.scale(0, 0));
        Check.noNumber("length -1", () -> x.scale(-1, 0));
        Check.noNumber("length 1000001", () -> x.scale(1000001, 0));
        Check.noNumber("length beyond int", () -> x.scale((1L << 32) + 5, 0));
        Check.noNumber("least length", () -> x.scale(Long.MIN_VALUE, 0));
        Check.noNumber("shift -1", () -> x.scale(5, -1));
        Check.noNumber("shift 17", () -> x.scale(5, 17));
        Check.noNumber("greatest shift", () -> x.scale(5, Integer.MAX_VALUE));
        Check.same("unchanged by what threw", x.fret(0, false), 42598400);
        x.scale(1, 0);
        Check.same("1 at 0", x.fret(0, true), 1);
        x.scale(1000000, 16);
        Check.same("1000000 at 16", x.fret(0, false), 65536000000L);
        x.scale(1000000, 0);
        Check.same("1000000 at 0, ends found anew", x.fret(1, false), 943874);
    }

    private static void fret() {
        FretRoots x = new FretRoots(12);
        Check.same("fret 1 lower", x.fret(1, false), 241631);
        Check.same("fret 1 upper", x.fret(1, true), 241632);
        Check.same("fret 1 lower again", x.fret(1, false), 241631);
        Check.same("fret 13 lower", x.fret(13, false), 120815);
        Check.same("fret 13 upper", x.fret(13, true), 120816);
        Check.same("fret 12 upper", x.fret(12, true), 128000);
        Check.noPlace("fret 25", () -> x.fret(25, true));
        Check.noPlace("fret -1", () -> x.fret(-1, false));
        Check.noPlace("least fret", () -> x.fret(Integer.MIN_VALUE, false));
        Check.noPlace("greatest fret", () -> x.fret(Integer.MAX_VALUE, false));
        x.scale(1, 0);
        Check.same("nothing left lower", x.fret(1, false), 0);
        Check.same("nothing left upper", x.fret(1, true), 1);
        Check.same("half of 1 lower", x.fret(12, false), 0);
        Check.same("half of 1 upper", x.fret(12, true), 1);
        x.scale(7, 0);
        Check.same("a quarter of 7 lower", x.fret(24, false), 1);
        Check.same("a quarter of 7 upper", x.fret(24, true), 2);
    }

    private static void exact() {
        FretRoots x = new FretRoots(12);
        for (int k = 0; k <= 24; k++) {
            Check.same("exact " + k, x.exact(k), k % 12 == 0);
        }
        x.scale(6, 0);
        Check.same("6 whole", x.exact(0), true);
        Check.same("6 halved", x.exact(12), true);
        Check.same("6 quartered", x.exact(24), false);
        x.scale(3, 0);
        Check.same("3 halved", x.exact(12), false);
        x.scale(3, 2);
        Check.same("3 in quarters", x.exact(24), true);
        Check.noPlace("exact 25", () -> x.exact(25));
        Check.noPlace("exact -1", () -> x.exact(-1));
    }
}
