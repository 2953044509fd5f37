/** Promises 14 to 16: fan, cross, upright. */
final class FanTest {
    public static void main(String[] args) {
        cross();
        edges();
        shiftOfBoth();
        upright();
        wrongFans();
        wrongCrosses();
        Check.end("FanTest");
    }

    private static void cross() {
        FretRoots x = new FretRoots(3);
        x.fan(700, 600, 5);
        long[][] due = {{0, 0, 179200, 0}, {0, 1, 174080, 0}, {0, 5, 153600, 0}, {1, 0, 142231, 0},
            {1, 1, 138167, 1}, {1, 2, 134103, 2}, {1, 5, 121912, 0}, {6, 2, 42240, 0}};
        for (long[] row : due) {
            String name = "cross " + row[0] + " at " + row[1];
            Check.same(name, x.cross((int) row[0], (int) row[1], 0), row[2]);
            Check.same(name + ", rest", x.cross((int) row[0], (int) row[1], 1), row[3]);
        }
        x.fan(1000000, 1, 1000);
        x.scale(1, 16);
        Check.same("the greatest, at the bass", x.cross(0, 0, 0), 65536000000L);
        Check.same("the greatest, at the treble", x.cross(0, 1000, 0), 65536);
        Check.same("the greatest, one on", x.cross(0, 1, 0), (65536000000L * 999 + 65536) / 1000);
        Check.same("the greatest, one on, rest", x.cross(0, 1, 1), (65536000000L * 999 + 65536) % 1000);
    }

    private static void edges() {
        FretRoots x = new FretRoots(1);
        x.fan(1, 1, 1);
        Check.same("the least", x.cross(0, 1, 0), 256);
        x.fan(1, 1000000, 1000);
        Check.same("from the least", x.cross(0, 0, 0), 256);
        Check.same("to the greatest", x.cross(0, 1000, 0), 256000000);
    }

    private static void shiftOfBoth() {
        FretRoots x = new FretRoots(1);
        x.scale(5, 0);
        Check.same("first bass at shift 0", x.cross(0, 0, 0), 1000);
        x.fan(8, 4, 2);
        Check.same("fan at shift 0", x.cross(1, 1, 0), 3);
        x.scale(5, 1);
        Check.same("fan at shift 1", x.cross(1, 1, 0), 6);
        Check.same("the scale is not the fan's", x.fret(0, false), 10);
    }

    private static void upright() {
        FretRoots x = new FretRoots(3);
        Check.same("both the same", x.upright(), 0);
        x.fan(700, 600, 5);
        Check.same("nearest at the end", x.upright(), 6);
        x.fan(600, 700, 5);
        Check.same("the treble longer", x.upright(), 6);
        x.scale(1000, 0);
        x.fan(2, 1, 1);
        // Lower ends 2 1 1 1 0 0 0 and 1 0 0 0 0 0 0.
        Check.same("the first of several", x.upright(), 4);
        x.fan(3, 2, 1);
        // Lower ends 3 2 1 1 1 0 0 and 2 1 1 1 0 0 0.
        Check.same("the first of them", x.upright(), 2);
        x.scale(1000, 16);
        Check.same("found anew behind a scale", x.upright(), 6);
    }

    private static void wrongFans() {
        FretRoots x = new FretRoots(3);
        x.fan(700, 600, 5);
        Check.noNumber("bass 0", () -> x.fan(0, 1, 1));
        Check.noNumber("bass 1000001", () -> x.fan(1000001, 1, 1));
        Check.noNumber("treble 0", () -> x.fan(1, 0, 1));
        Check.noNumber("treble -1", () -> x.fan(1, -1, 1));
        Check.noNumber("treble 1000001", () -> x.fan(1, 1000001, 1));
        Check.noNumber("span 0", () -> x.fan(1, 1, 0));
        Check.noNumber("span 1001", () -> x.fan(1, 1, 1001));
        Check.noNumber("the least span", () -> x.fan(1, 1, Integer.MIN_VALUE));
        Check.same("unchanged bass", x.cross(0, 0, 0), 179200);
        Check.same("unchanged treble", x.cross(0, 5, 0), 153600);
    }

    private static void wrongCrosses() {
        FretRoots x = new FretRoots(3);
        x.fan(700, 600, 5);
        Check.noNumber("at 6", () -> x.cross(0, 6, 0));
        Check.noNumber("at -1", () -> x.cross(0, -1, 1));
        Check.noPlace("part 2", () -> x.cross(0, 0, 2));
        Check.noPlace("part -1 goes first", () -> x.cross(0, -1, -1));
        Check.noPlace("fret 7 goes first", () -> x.cross(7, 9, 0));
        Check.noPlace("fret -1", () -> x.cross(-1, 0, 0));
    }
}
