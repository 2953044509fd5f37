import java.util.ArrayList;
import java.util.List;
import java.util.function.Supplier;

/**
 * The two sentences of the Terms that bind every call that throws: it changes nothing, and of
 * several exceptions the one named first is thrown. An object on which such a call was made is set
 * beside a twin without it: all that the two answer then, and behind further calls, is the same.
 */
final class RefusedTest {
    interface Asked {
        void of(FretRoots x);
    }

    public static void main(String[] args) {
        Check.each(RefusedTest::scale, RefusedTest::fretAndExact, RefusedTest::just, RefusedTest::justRow,
            RefusedTest::nearest, RefusedTest::step, RefusedTest::rest, RefusedTest::beat, RefusedTest::fan,
            RefusedTest::cross, RefusedTest::key, RefusedTest::pull, RefusedTest::pipe, RefusedTest::oneAfterTheOther,
            RefusedTest::firstOfJust, RefusedTest::firstOfBeat, RefusedTest::firstOfCross, RefusedTest::firstOfKey);
        Check.end("RefusedTest");
    }

    /** Nothing in it is as in a new one. */
    private static FretRoots used() {
        FretRoots x = new FretRoots(2);
        x.scale(750, 4);
        for (int k = 0; k <= 4; k++) {
            x.just(k, 7 + k, 6);
        }
        x.step(3, 1);
        x.step(5, 1);
        x.fan(700, 601, 5);
        return x;
    }

    /** What hidden traces of a refused call could show: each of these goes first on an object of its own. */
    private static void goOn(FretRoots x, int first) {
        switch (first) {
            case 0 -> x.scale(333, 7);
            case 1 -> x.fan(55, 66, 1);
            case 2 -> x.just(1, 9, 8);
            case 3 -> x.step(7, 4);
            case 4 -> x.clear();
            default -> x.upright();
        }
    }

    private static List<String> seenOf(FretRoots x, int first) {
        List<String> seen = new ArrayList<>();
        lookAt(x, seen);
        goOn(x, first);
        lookAt(x, seen);
        for (int next = 0; next <= 5; next++) {
            goOn(x, next);
        }
        lookAt(x, seen);
        return seen;
    }

    private static void lookAt(FretRoots x, List<String> seen) {
        for (int k = 0; k <= 5; k++) {
            lookAtFret(x, k, seen);
        }
        for (int at = 0; at <= 6; at++) {
            int place = at;
            seen.add("cross(1, " + at + ", 0) " + told(() -> x.cross(1, place, 0)));
            seen.add("cross(1, " + at + ", 1) " + told(() -> x.cross(1, place, 1)));
        }
        for (int part = 0; part < 4; part++) {
            int asked = part;
            seen.add("rest(" + part + ") " + told(() -> x.rest(asked)));
        }
        seen.add("upright() " + told(() -> x.upright()));
        seen.add("nearest(3, 2) " + told(() -> x.nearest(3, 2)));
        seen.add("key(1, 165, 0) " + told(() -> x.key(1, 165, 0)));
        seen.add("pull(440, 0.65, 0.001) " + told(() -> x.pull(440.0, 0.65, 0.001)));
        seen.add("pipe(440, true, 0.1) " + told(() -> x.pipe(440.0, true, 0.1)));
    }

    private static void lookAtFret(FretRoots x, int k, List<String> seen) {
        seen.add("fret(" + k + ", false) " + told(() -> x.fret(k, false)));
        seen.add("fret(" + k + ", true) " + told(() -> x.fret(k, true)));
        seen.add("exact(" + k + ") " + told(() -> x.exact(k)));
        seen.add("justAt(" + k + ", 0) " + told(() -> x.justAt(k, 0)));
        seen.add("justAt(" + k + ", 1) " + told(() -> x.justAt(k, 1)));
        seen.add("leaves(" + k + ") " + told(() -> x.leaves(k)));
        seen.add("beside(" + k + ") " + told(() -> x.beside(k)));
        seen.add("beat(" + k + ", 0, 441, 0) " + told(() -> x.beat(k, 0, 441, 0)));
        seen.add("cross(" + k + ", 0, 0) " + told(() -> x.cross(k, 0, 0)));
        seen.add("cross(" + k + ", 1, 0) " + told(() -> x.cross(k, 1, 0)));
    }

    /** An answer, or the exception that came instead of one. */
    private static String told(Supplier<Object> asked) {
        try {
            return String.valueOf(asked.get());
        } catch (RuntimeException e) {
            return Check.nameOf(e);
        }
    }

    private static void compare(String call, FretRoots x, FretRoots twin, int first) {
        List<String> got = seenOf(x, first);
        List<String> due = seenOf(twin, first);
        for (int i = 0; i < due.size(); i++) {
            Check.same("behind " + call + ", look " + i, got.get(i), due.get(i));
        }
    }

    private static void changesNothing(String call, String due, Asked asked) {
        for (int first = 0; first <= 5; first++) {
            FretRoots x = used();
            Check.same(call + " of a used one", Check.outcome(() -> asked.of(x)), due);
            compare(call + " of a used one", x, used(), first);
            FretRoots y = new FretRoots(2);
            Check.same(call + " of a new one", Check.outcome(() -> asked.of(y)), due);
            Check.same(call + " of a new one, again", Check.outcome(() -> asked.of(y)), due);
            compare(call + " of a new one", y, new FretRoots(2), first);
        }
    }

    private static void noPlace(String call, Asked asked) {
        changesNothing(call, Check.PLACE, asked);
    }

    private static void noNumber(String call, Asked asked) {
        changesNothing(call, Check.NUMBER, asked);
    }

    private static void scale() {
        Check.sentence(2, "A call that throws changes nothing");
        noNumber("scale(0, 5)", x -> x.scale(0, 5));
        noNumber("scale(1000001, 5)", x -> x.scale(1000001, 5));
        noNumber("scale(2^32 + 5, 5)", x -> x.scale((1L << 32) + 5, 5));
        noNumber("scale(5, -1)", x -> x.scale(5, -1));
        noNumber("scale(5, 17)", x -> x.scale(5, 17));
        noNumber("scale(0, 17)", x -> x.scale(0, 17));
    }

    private static void fretAndExact() {
        Check.sentence(3, "A call that throws changes nothing");
        noPlace("fret(-1, false)", x -> x.fret(-1, false));
        noPlace("fret(5, true)", x -> x.fret(5, true));
        Check.sentence(4, "A call that throws changes nothing");
        noPlace("exact(-1)", x -> x.exact(-1));
        noPlace("exact(5)", x -> x.exact(5));
    }

    private static void just() {
        Check.sentence(5, "A call that throws changes nothing");
        noPlace("just(-1, 3, 2)", x -> x.just(-1, 3, 2));
        noPlace("just(5, 3, 2)", x -> x.just(5, 3, 2));
        noNumber("just(1, 0, 2)", x -> x.just(1, 0, 2));
        noNumber("just(1, 1000001, 2)", x -> x.just(1, 1000001, 2));
        noNumber("just(1, 3, 0)", x -> x.just(1, 3, 0));
        noNumber("just(1, 3, 1000001)", x -> x.just(1, 3, 1000001));
        noNumber("just(0, 0, 0)", x -> x.just(0, 0, 0));
        noNumber("just(4, 2000000, 1000000)", x -> x.just(4, 2000000, 1000000));
    }

    private static void justRow() {
        Check.sentence(6, "A call that throws changes nothing");
        noPlace("justAt(5, 0)", x -> x.justAt(5, 0));
        noPlace("justAt(-1, 1)", x -> x.justAt(-1, 1));
        noPlace("justAt(0, 2)", x -> x.justAt(0, 2));
        noPlace("justAt(0, -1)", x -> x.justAt(0, -1));
        Check.sentence(7, "A call that throws changes nothing");
        noPlace("leaves(5)", x -> x.leaves(5));
        noPlace("leaves(-1)", x -> x.leaves(-1));
        Check.sentence(8, "A call that throws changes nothing");
        noPlace("beside(5)", x -> x.beside(5));
        noPlace("beside(-1)", x -> x.beside(-1));
    }

    private static void nearest() {
        Check.sentence(9, "A call that throws changes nothing");
        noNumber("nearest(0, 2)", x -> x.nearest(0, 2));
        noNumber("nearest(1000001, 2)", x -> x.nearest(1000001, 2));
        noNumber("nearest(3, 0)", x -> x.nearest(3, 0));
        noNumber("nearest(3, 1000001)", x -> x.nearest(3, 1000001));
    }

    private static void step() {
        Check.sentence(10, "A call that throws changes nothing");
        noNumber("step(0, 2)", x -> x.step(0, 2));
        noNumber("step(1000001, 2)", x -> x.step(1000001, 2));
        noNumber("step(3, 0)", x -> x.step(3, 0));
        noNumber("step(3, 1000001)", x -> x.step(3, 1000001));
        noNumber("step(-3, -2)", x -> x.step(-3, -2));
        noNumber("step(0, 0)", x -> x.step(0, 0));
    }

    private static void rest() {
        Check.sentence(12, "A call that throws changes nothing");
        noPlace("rest(4)", x -> x.rest(4));
        noPlace("rest(-1)", x -> x.rest(-1));
    }

    private static void beat() {
        Check.sentence(13, "A call that throws changes nothing");
        noPlace("beat(5, 0, 440, 0)", x -> x.beat(5, 0, 440, 0));
        noPlace("beat(0, -1, 440, 0)", x -> x.beat(0, -1, 440, 0));
        noPlace("beat(0, 1, 440, 2)", x -> x.beat(0, 1, 440, 2));
        noNumber("beat(0, 1, 0, 0)", x -> x.beat(0, 1, 0, 0));
        noNumber("beat(0, 1, 100001, 1)", x -> x.beat(0, 1, 100001, 1));
    }

    private static void fan() {
        Check.sentence(14, "A call that throws changes nothing");
        noNumber("fan(0, 44, 3)", x -> x.fan(0, 44, 3));
        noNumber("fan(1000001, 44, 3)", x -> x.fan(1000001, 44, 3));
        noNumber("fan(33, 0, 3)", x -> x.fan(33, 0, 3));
        noNumber("fan(33, 1000001, 3)", x -> x.fan(33, 1000001, 3));
        noNumber("fan(33, 44, 0)", x -> x.fan(33, 44, 0));
        noNumber("fan(33, 44, 1001)", x -> x.fan(33, 44, 1001));
        noNumber("fan(0, 0, 0)", x -> x.fan(0, 0, 0));
    }

    private static void cross() {
        Check.sentence(15, "A call that throws changes nothing");
        noPlace("cross(5, 0, 0)", x -> x.cross(5, 0, 0));
        noPlace("cross(-1, 0, 1)", x -> x.cross(-1, 0, 1));
        noPlace("cross(0, 0, 2)", x -> x.cross(0, 0, 2));
        noNumber("cross(0, -1, 0)", x -> x.cross(0, -1, 0));
        noNumber("cross(0, 6, 0)", x -> x.cross(0, 6, 0));
    }

    private static void key() {
        Check.sentence(17, "A call that throws changes nothing");
        noPlace("key(12, 165, 0)", x -> x.key(12, 165, 0));
        noPlace("key(-1, 165, 0)", x -> x.key(-1, 165, 0));
        noPlace("key(0, 165, 4)", x -> x.key(0, 165, 4));
        noNumber("key(0, 0, 0)", x -> x.key(0, 0, 0));
        noNumber("key(1, 1000001, 1)", x -> x.key(1, 1000001, 1));
    }

    private static void pull() {
        Check.sentence(18, "A call that throws changes nothing");
        noNumber("pull(-1, 1, 1)", x -> x.pull(-1.0, 1.0, 1.0));
        noNumber("pull(1, 10001, 1)", x -> x.pull(1.0, 10001.0, 1.0));
        noNumber("pull(1, 1, NaN)", x -> x.pull(1.0, 1.0, Double.NaN));
    }

    private static void pipe() {
        Check.sentence(19, "A call that throws changes nothing");
        noNumber("pipe(0, true, 1)", x -> x.pipe(0.0, true, 1.0));
        noNumber("pipe(440, false, 101)", x -> x.pipe(440.0, false, 101.0));
    }

    private static void oneAfterTheOther() {
        Check.ofAll("A call that throws changes nothing", "nor do many, one after the other");
        noNumber("scale, fan, just and step that throw", x -> {
            Check.noNumber("scale(5, 17)", () -> x.scale(5, 17));
            Check.noNumber("fan(33, 44, 1001)", () -> x.fan(33, 44, 1001));
            Check.noNumber("just(1, 3, 0)", () -> x.just(1, 3, 0));
            Check.noPlace("cross(5, 9, 9)", () -> x.cross(5, 9, 9));
            Check.noPlace("rest(4)", () -> x.rest(4));
            x.step(3, 0);
        });
    }

    private static void firstOfJust() {
        Check.sentence(5, "of several exceptions the one named first is thrown.");
        FretRoots x = new FretRoots(2);
        for (int k : new int[] {-1, 5, Integer.MIN_VALUE, Integer.MAX_VALUE}) {
            Check.noPlace("just(" + k + ", 0, 1)", () -> x.just(k, 0, 1));
            Check.noPlace("just(" + k + ", 1, 1000001)", () -> x.just(k, 1, 1000001));
            Check.noPlace("just(" + k + ", -1, -1)", () -> x.just(k, -1, -1));
        }
    }

    private static void firstOfBeat() {
        Check.sentence(13, "of several exceptions the one named first is thrown.");
        FretRoots x = new FretRoots(2);
        for (int hertz : new int[] {0, -1, 100001, Integer.MIN_VALUE}) {
            Check.noPlace("beat(5, 0, " + hertz + ", 0)", () -> x.beat(5, 0, hertz, 0));
            Check.noPlace("beat(-1, 0, " + hertz + ", 1)", () -> x.beat(-1, 0, hertz, 1));
            Check.noPlace("beat(0, 5, " + hertz + ", 0)", () -> x.beat(0, 5, hertz, 0));
            Check.noPlace("beat(0, -1, " + hertz + ", 1)", () -> x.beat(0, -1, hertz, 1));
            Check.noPlace("beat(0, 1, " + hertz + ", 2)", () -> x.beat(0, 1, hertz, 2));
            Check.noPlace("beat(0, 1, " + hertz + ", -1)", () -> x.beat(0, 1, hertz, -1));
            Check.noPlace("beat(5, 5, " + hertz + ", 2)", () -> x.beat(5, 5, hertz, 2));
        }
    }

    private static void firstOfCross() {
        Check.sentence(15, "of several exceptions the one named first is thrown.");
        FretRoots x = new FretRoots(2);
        for (int at : new int[] {-1, 2, Integer.MIN_VALUE, Integer.MAX_VALUE}) {
            Check.noPlace("cross(5, " + at + ", 0)", () -> x.cross(5, at, 0));
            Check.noPlace("cross(-1, " + at + ", 1)", () -> x.cross(-1, at, 1));
            Check.noPlace("cross(0, " + at + ", 2)", () -> x.cross(0, at, 2));
            Check.noPlace("cross(0, " + at + ", -1)", () -> x.cross(0, at, -1));
            Check.noPlace("cross(5, " + at + ", 2)", () -> x.cross(5, at, 2));
        }
    }

    private static void firstOfKey() {
        Check.sentence(17, "of several exceptions the one named first is thrown.");
        FretRoots x = new FretRoots(2);
        for (long wide : new long[] {0, -1, 1000001, Long.MIN_VALUE, Long.MAX_VALUE}) {
            Check.noPlace("key(12, " + wide + ", 0)", () -> x.key(12, wide, 0));
            Check.noPlace("key(-1, " + wide + ", 3)", () -> x.key(-1, wide, 3));
            Check.noPlace("key(0, " + wide + ", 4)", () -> x.key(0, wide, 4));
            Check.noPlace("key(1, " + wide + ", -1)", () -> x.key(1, wide, -1));
            Check.noPlace("key(12, " + wide + ", 4)", () -> x.key(12, wide, 4));
        }
    }
}
