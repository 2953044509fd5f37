/** Promises 10 to 12: step, clear, rest. */
final class ChainTest {
    public static void main(String[] args) {
        twelveFifths();
        octaves();
        refused();
        edgeOfRefusal();
        exactlyTheGreatest();
        oddNumbersAtTheEdge();
        wrongNumbers();
        Check.end("ChainTest");
    }

    private static void chainIs(String when, FretRoots x, long above, long below, long octaves, long steps) {
        Check.same(when + ", numerator", x.rest(0), above);
        Check.same(when + ", denominator", x.rest(1), below);
        Check.same(when + ", octaves", x.rest(2), octaves);
        Check.same(when + ", steps", x.rest(3), steps);
    }

    private static void twelveFifths() {
        FretRoots x = new FretRoots(12);
        for (int i = 0; i < 12; i++) {
            Check.same("fifth " + i, x.step(3, 2), true);
        }
        chainIs("twelve fifths", x, 531441, 524288, 7, 12);
        for (int i = 0; i < 12; i++) {
            Check.same("fifth back " + i, x.step(2, 3), true);
        }
        chainIs("and back", x, 1, 1, 0, 24);
        x.step(3, 2);
        x.clear();
        chainIs("cleared", x, 1, 1, 0, 0);
    }

    private static void octaves() {
        FretRoots x = new FretRoots(12);
        x.step(1, 3);
        chainIs("a third", x, 4, 3, -2, 1);
        x.step(1000000, 1);
        chainIs("a million more", x, 15625, 12288, 18, 2);
        x.clear();
        x.step(2, 1);
        chainIs("an octave", x, 1, 1, 1, 1);
        x.step(6, 12);
        chainIs("an octave down, not reduced", x, 1, 1, 0, 2);
        x.step(7, 7);
        chainIs("nothing", x, 1, 1, 0, 3);
        x.step(1, 524288);
        chainIs("nineteen octaves down", x, 1, 1, -19, 4);
        x.step(999999, 500000);
        chainIs("just below two", x, 999999, 500000, -19, 5);
        x.step(500000, 999999);
        chainIs("back to one", x, 1, 1, -19, 6);
        x.step(500000, 999999);
        chainIs("just above a half", x, 1000000, 999999, -20, 7);
    }

    private static void refused() {
        FretRoots x = new FretRoots(1);
        for (int i = 0; i < 31; i++) {
            Check.same("fifth " + i, x.step(3, 2), true);
        }
        chainIs("31 fifths", x, 617673396283947L, 562949953421312L, 18, 31);
        Check.same("one fifth too many", x.step(3, 2), false);
        Check.same("far too many", x.step(999983, 999979), false);
        chainIs("after refusals", x, 617673396283947L, 562949953421312L, 18, 31);
        Check.same("back", x.step(2, 3), true);
        chainIs("30 fifths", x, 205891132094649L, 140737488355328L, 17, 32);
    }

    /** The numbers are looked at without a common divisor and behind the octaves. */
    private static void edgeOfRefusal() {
        FretRoots x = new FretRoots(1);
        x.step(1, 15625);
        x.step(1, 15625);
        Check.same("5^15 below", x.step(1, 125), true);
        chainIs("5^15 below", x, 34359738368L, 30517578125L, -35, 3);
        Check.same("5^21 below", x.step(1, 15625), true);
        chainIs("5^21 below", x, 562949953421312L, 476837158203125L, -49, 4);
        Check.same("5^22 below", x.step(1, 5), false);
        Check.same("fives gone again", x.step(15625, 1), true);
        chainIs("5^15 again", x, 34359738368L, 30517578125L, -35, 5);
        x.clear();
        for (int i = 0; i < 30; i++) {
            x.step(1, 3);
        }
        chainIs("3^30 below", x, 281474976710656L, 205891132094649L, -48, 30);
        Check.same("3^31 is not too great, but 2^50 above it is", x.step(1, 3), false);
        chainIs("3^30 still", x, 281474976710656L, 205891132094649L, -48, 30);
        x.clear();
        x.step(999999, 500000);
        x.step(999999, 500000);
        Check.same("a product that would leave 63 bits", x.step(999983, 999979), false);
    }

    /** 10^15 is 2^15 * 5^15: a denominator from 5 * 10^14 on brings all the twos up. */
    private static void exactlyTheGreatest() {
        FretRoots x = new FretRoots(1);
        Check.same("by 10^6 / 999983", x.step(1000000, 999983), true);
        Check.same("by 10^6 / 999979", x.step(1000000, 999979), true);
        Check.same("by 1000 / 997", x.step(1000, 997), true);
        chainIs("10^15 above", x, 1000000000000000L, 999983L * 999979L * 997L, 0, 3);
        Check.same("a little more", x.step(1000, 999), false);
        chainIs("10^15 still", x, 1000000000000000L, 999983L * 999979L * 997L, 0, 3);
    }

    /** Odd numerators just within and just above 10^15, their last factor 999961. */
    private static void oddNumbersAtTheEdge() {
        FretRoots x = new FretRoots(1);
        x.step(11479, 1);
        x.step(87119, 1);
        Check.same("999999999478961", x.step(999961, 1), true);
        chainIs("999999999478961", x, 999999999478961L, 562949953421312L, 49, 3);
        x.clear();
        x.step(114251, 1);
        x.step(8753, 1);
        Check.same("1000000001478883", x.step(999961, 1), false);
        chainIs("without 999961", x, 1000039003L, 536870912L, 29, 2);
    }

    private static void wrongNumbers() {
        FretRoots x = new FretRoots(1);
        x.step(3, 2);
        Check.noNumber("above 0", () -> x.step(0, 1));
        Check.noNumber("above -1", () -> x.step(-1, 1));
        Check.noNumber("above 1000001", () -> x.step(1000001, 1));
        Check.noNumber("below 0", () -> x.step(1, 0));
        Check.noNumber("below 1000001", () -> x.step(1, 1000001));
        Check.noNumber("the least", () -> x.step(Integer.MIN_VALUE, 1));
        Check.noPlace("rest 4", () -> x.rest(4));
        Check.noPlace("rest -1", () -> x.rest(-1));
        Check.noPlace("rest, the greatest", () -> x.rest(Integer.MAX_VALUE));
        chainIs("after what threw", x, 3, 2, 0, 1);
    }
}
