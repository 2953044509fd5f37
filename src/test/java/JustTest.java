/** Promises 5 to 9 and 13: just, justAt, leaves, beside, nearest, beat. */
final class JustTest {
    public static void main(String[] args) {
        just();
        leaves();
        beside();
        nearest();
        nearestByWrongNumbers();
        beat();
        Check.end("JustTest");
    }

    private static void just() {
        FretRoots x = new FretRoots(12);
        x.just(12, 4, 2);
        Check.same("4 / 2 above", x.justAt(12, 0), 2);
        Check.same("4 / 2 below", x.justAt(12, 1), 1);
        x.just(0, 1000000, 999999);
        Check.same("greatest above", x.justAt(0, 0), 1000000);
        Check.same("greatest below", x.justAt(0, 1), 999999);
        x.just(24, 1, 1000000);
        Check.same("least above", x.justAt(24, 0), 1);
        Check.same("least below", x.justAt(24, 1), 1000000);
        x.just(24, 1000000, 1000000);
        Check.same("one above", x.justAt(24, 0), 1);
        Check.same("one below", x.justAt(24, 1), 1);
        Check.noPlace("just 25 goes first", () -> x.just(25, 0, 0));
        Check.noPlace("just -1", () -> x.just(-1, 3, 2));
        Check.noNumber("above 0", () -> x.just(12, 0, 1));
        Check.noNumber("above 1000001", () -> x.just(12, 1000001, 1));
        Check.noNumber("below 0", () -> x.just(12, 3, 0));
        Check.noNumber("below -2", () -> x.just(12, 3, -2));
        Check.noNumber("below 1000001", () -> x.just(12, 3, 1000001));
        Check.same("unchanged by what threw", x.justAt(12, 0), 2);
        Check.noPlace("part 2", () -> x.justAt(12, 2));
        Check.noPlace("part -1", () -> x.justAt(12, -1));
        Check.noPlace("justAt 25", () -> x.justAt(25, 0));
        Check.noPlace("justAt -1", () -> x.justAt(-1, 1));
    }

    private static void leaves() {
        FretRoots x = new FretRoots(12);
        x.scale(648, 0);
        x.just(7, 3, 2);
        Check.same("3 / 2 of 648", x.leaves(7), 432);
        x.just(7, 5, 4);
        Check.same("5 / 4 of 648, cut off", x.leaves(7), 518);
        x.scale(1000000, 16);
        x.just(1, 1, 1000000);
        Check.same("the greatest", x.leaves(1), 65536000000000000L);
        x.just(1, 1000000, 1);
        Check.same("the least of it", x.leaves(1), 65536);
        x.scale(1, 0);
        Check.same("nothing whole", x.leaves(1), 0);
        Check.noPlace("leaves 25", () -> x.leaves(25));
        Check.noPlace("leaves -1", () -> x.leaves(-1));
    }

    private static void beside() {
        FretRoots x = new FretRoots(12);
        x.just(7, 3, 2);
        Check.same("3 / 2", x.beside(7), 1);
        x.just(4, 5, 4);
        Check.same("5 / 4", x.beside(4), -1);
        x.just(12, 2, 1);
        Check.same("2 / 1", x.beside(12), 0);
        x.just(24, 4, 1);
        Check.same("4 / 1", x.beside(24), 0);
        Check.same("1 / 1", x.beside(0), 0);
        x.just(0, 999999, 1000000);
        Check.same("a little below 1", x.beside(0), -1);
        x.just(24, 1000000, 1);
        Check.same("much above 4", x.beside(24), 1);
        x.just(24, 999999, 250000);
        Check.same("a little below 4", x.beside(24), -1);
        Check.noPlace("beside 25", () -> x.beside(25));
        Check.noPlace("beside -1", () -> x.beside(-1));
    }

    private static void nearest() {
        FretRoots x = new FretRoots(12);
        int[][] due = {{3, 2, 7}, {2, 1, 12}, {4, 1, 24}, {5, 1, 24}, {1000000, 1, 24}, {1, 2, 0}, {1, 1000000, 0},
            {1, 1, 0}, {17, 16, 1}, {1000000, 999999, 0}, {999999, 1000000, 0}, {39, 10, 24}, {3887, 1000, 24},
            {3886, 1000, 23}};
        for (int[] row : due) {
            Check.same("nearest " + row[0] + " / " + row[1], x.nearest(row[0], row[1]), row[2]);
        }
        FretRoots one = new FretRoots(1);
        Check.same("below the square root of 2", one.nearest(1414, 1000), 0);
        Check.same("above the square root of 2", one.nearest(1415, 1000), 1);
        Check.same("below the square root of 8", one.nearest(2828, 1000), 1);
        Check.same("above the square root of 8", one.nearest(2829, 1000), 2);
    }

    private static void nearestByWrongNumbers() {
        FretRoots x = new FretRoots(12);
        Check.noNumber("above 0", () -> x.nearest(0, 1));
        Check.noNumber("above -3", () -> x.nearest(-3, 2));
        Check.noNumber("above 1000001", () -> x.nearest(1000001, 1));
        Check.noNumber("below 0", () -> x.nearest(1, 0));
        Check.noNumber("below 1000001", () -> x.nearest(1, 1000001));
        Check.noNumber("the least", () -> x.nearest(Integer.MIN_VALUE, Integer.MIN_VALUE));
    }

    private static void beat() {
        FretRoots x = new FretRoots(1);
        x.just(1, 3, 2);
        x.just(2, 5, 4);
        Check.same("110 beats", x.beat(1, 2, 440, 0), 110);
        Check.same("110 beats' denominator", x.beat(1, 2, 440, 1), 1);
        Check.same("the other way round", x.beat(2, 1, 441, 0), 441);
        Check.same("quarters", x.beat(2, 1, 441, 1), 4);
        Check.same("no beats", x.beat(1, 1, 7, 0), 0);
        Check.same("no beats' denominator", x.beat(1, 1, 7, 1), 1);
        x.just(0, 1000000, 1);
        x.just(1, 1, 1000000);
        Check.same("the greatest", x.beat(0, 1, 99999, 0), 99999L * 999999999999L);
        Check.same("the greatest's denominator", x.beat(0, 1, 99999, 1), 1000000);
        Check.same("hertz 100000", x.beat(0, 1, 100000, 1), 10);
        Check.same("hertz 1", x.beat(2, 1, 1, 0), 1249999);
        Check.same("hertz 1's denominator", x.beat(2, 1, 1, 1), 1000000);
        Check.noPlace("a 3 goes first", () -> x.beat(3, 0, 0, 0));
        Check.noPlace("b -1", () -> x.beat(0, -1, 440, 0));
        Check.noPlace("b 3 goes first", () -> x.beat(0, 3, 0, 0));
        Check.noPlace("part 2 goes first", () -> x.beat(0, 1, 0, 2));
        Check.noPlace("part -1", () -> x.beat(0, 1, 440, -1));
        Check.noNumber("hertz 0", () -> x.beat(0, 1, 0, 0));
        Check.noNumber("hertz -440", () -> x.beat(0, 1, -440, 0));
        Check.noNumber("hertz 100001", () -> x.beat(0, 1, 100001, 1));
    }
}
