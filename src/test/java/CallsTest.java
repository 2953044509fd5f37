/** An object's last promised call, its 512th, answers as the first one does. */
final class CallsTest {
    private static final int CALLS = 512;

    interface Made {
        void on(FretRoots x, int call);
    }

    public static void main(String[] args) {
        Check.each(CallsTest::lastAnswers, CallsTest::lastRefusals, CallsTest::lastStep, CallsTest::lastOfDearCalls,
            CallsTest::manyObjects);
        Check.end("CallsTest");
    }

    /** An object with 511 calls behind it. */
    private static FretRoots after511(int notes, Made made) {
        FretRoots x = new FretRoots(notes);
        for (int call = 1; call < CALLS; call++) {
            made.on(x, call);
        }
        return x;
    }

    private static FretRoots worn() {
        return after511(12, (x, call) -> {
            switch (call % 7) {
                case 0 -> x.scale(1 + call, call % 17);
                case 1 -> x.just(call % 25, 1 + call, 512);
                case 2 -> x.step(1 + call % 3, 2);
                case 3 -> x.fan(1 + call, 1000 - call, 1 + call % 1000);
                case 4 -> x.fret(call % 25, true);
                case 5 -> Check.outcome(() -> x.rest(4));
                default -> x.upright();
            }
        });
    }

    private static void lastAnswers() {
        Check.ofAll("An object is used for at most 512 calls after it has been made", "the 512th still answers");
        // The last ones were scale(512, 1), just(5, 506, 512) and fan(508, 493, 508).
        Check.same("fret(0, false)", worn().fret(0, false), 1024);
        Check.same("exact(12)", worn().exact(12), true);
        Check.same("justAt(5, 0)", worn().justAt(5, 0), 253);
        Check.same("leaves(5)", worn().leaves(5), 1036);
        Check.same("beside(5)", worn().beside(5), -1);
        Check.same("nearest(3, 2)", worn().nearest(3, 2), 7);
        Check.same("beat(8, 8, 7, 1)", worn().beat(8, 8, 7, 1), 1);
        Check.same("cross(0, 508, 0)", worn().cross(0, 508, 0), 986);
        Check.same("upright()", worn().upright(), 23);
        Check.same("key(11, 1000000, 1)", worn().key(11, 1000000, 1), 84000000);
        Check.same("pull(10000, 10000, 10000)", worn().pull(10000.0, 10000.0, 10000.0), 4e20);
        Check.same("pipe(1, true, 0)", worn().pipe(1.0, true, 0.0), 170.0);
        Check.same("step(1, 1)", worn().step(1, 1), true);
        Check.fine("scale(1, 0)", () -> worn().scale(1, 0));
        Check.fine("just(0, 1, 1)", () -> worn().just(0, 1, 1));
        Check.fine("fan(1, 1, 1)", () -> worn().fan(1, 1, 1));
        Check.fine("clear()", () -> worn().clear());
    }

    private static void lastRefusals() {
        Check.ofAll("An object is used for at most 512 calls after it has been made",
            "the 512th still throws what is due");
        Check.noPlace("fret(25, false)", () -> worn().fret(25, false));
        Check.noPlace("rest(4)", () -> worn().rest(4));
        Check.noNumber("scale(0, 0)", () -> worn().scale(0, 0));
        Check.noNumber("step(0, 1)", () -> worn().step(0, 1));
        Check.noNumber("cross(0, 509, 0)", () -> worn().cross(0, 509, 0));
    }

    private static void lastStep() {
        Check.ofAll("An object is used for at most 512 calls after it has been made",
            "511 steps and what they come to");
        Check.same("rest(3)", after511(1, (x, call) -> x.step(1, 1)).rest(3), 511);
        Check.same("rest(2) of octaves up", after511(1, (x, call) -> x.step(524288, 1)).rest(2), 511 * 19);
        Check.same("rest(2) of octaves down", after511(1, (x, call) -> x.step(1, 524288)).rest(2), -511 * 19);
        // After 31 of them every further one is refused.
        Check.same("rest(3) of fifths", after511(1, (x, call) -> x.step(3, 2)).rest(3), 31);
        Check.same("rest(0) of fifths", after511(1, (x, call) -> x.step(3, 2)).rest(0), 617673396283947L);
        Check.same("a fifth more", after511(1, (x, call) -> x.step(3, 2)).step(3, 2), false);
        Check.same("a fifth back", after511(1, (x, call) -> x.step(3, 2)).step(2, 3), true);
    }

    private static void lastOfDearCalls() {
        Check.ofAll("An object is used for at most 512 calls after it has been made", "the dearest ones");
        FretRoots fans = after511(24, (x, call) -> {
            if (call % 2 == 1) {
                x.fan(1000000 - call, 999999 - call, 1000);
            } else {
                x.upright();
            }
        });
        Check.same("upright()", fans.upright(), 48);
        FretRoots scales = after511(24, (x, call) -> {
            if (call % 2 == 1) {
                x.scale(1000000 - call, 16);
            } else {
                x.fret(47, true);
            }
        });
        Check.same("fret(24, false)", scales.fret(24, false), 999489L * 32768);
        FretRoots nearest = after511(24, (x, call) -> x.nearest(1000000, 250000 + call));
        Check.same("nearest(820813, 208188)", nearest.nearest(820813, 208188), 48);
    }

    /** No object knows of another one's calls. */
    private static void manyObjects() {
        Check.ofAll("A new object", "it knows of no other one's calls");
        FretRoots x = worn();
        FretRoots y = new FretRoots(12);
        Check.same("fret(0, false) of a new one", y.fret(0, false), 256000);
        y.scale(3, 0);
        y.just(5, 5, 4);
        y.step(5, 4);
        y.fan(8, 4, 2);
        Check.same("fret(0, false) of the other", x.fret(0, false), 1024);
        FretRoots z = worn();
        y.clear();
        Check.same("justAt(5, 0) of the other", z.justAt(5, 0), 253);
        Check.same("cross(0, 0, 0) of the one", y.cross(0, 0, 0), 8);
    }
}
