/**
 * What every test here uses: counts answers that are not due, prints them behind the promise and
 * the sentence of the document that they break, ends with 1 if there was one.
 */
final class Check {
    static final String PLACE = "ArrayIndexOutOfBoundsException";
    static final String NUMBER = "IllegalArgumentException";
    static final String NOTHING = "nothing";

    interface Call {
        void run();
    }

    private static String where = "";
    private static int tests = 0;
    private static int doneBehind = 1;
    private static int done = 0;
    private static int wrong = 0;

    private Check() {
    }

    /** From here on the answers belong to a sentence of a promise, or of a term that the promise uses. */
    static void sentence(int promise, String text) {
        heading("promise " + promise, text, "");
    }

    /** The same for one of several cases of a sentence. */
    static void sentence(int promise, String text, String which) {
        heading("promise " + promise, text, ", " + which);
    }

    /** The same for a sentence that binds every promise. */
    static void ofAll(String text, String which) {
        heading("promises 1 to 19", text, ", " + which);
    }

    /** One test after the other; a call that throws where an answer is due ends its own test alone. */
    static void each(Call... tests) {
        for (Call test : tests) {
            String outcome = outcome(test);
            if (!outcome.equals(NOTHING)) {
                report("a call", false, outcome, "an answer");
            }
        }
    }

    private static void heading(String promise, String text, String which) {
        needAnswers();
        where = promise + ", \"" + text + "\"" + which + ": ";
        tests++;
        doneBehind = 0;
    }

    private static void needAnswers() {
        if (doneBehind == 0) {
            wrong++;
            System.out.println(where + "nothing was looked at");
        }
    }

    static void same(String call, long got, long due) {
        report(call, got == due, String.valueOf(got), String.valueOf(due));
    }

    static void same(String call, boolean got, boolean due) {
        report(call, got == due, String.valueOf(got), String.valueOf(due));
    }

    static void same(String call, double got, double due) {
        report(call, got == due, String.valueOf(got), String.valueOf(due));
    }

    static void same(String call, String got, String due) {
        report(call, got.equals(due), got, due);
    }

    static void noPlace(String call, Call made) {
        same(call, outcome(made), PLACE);
    }

    static void noNumber(String call, Call made) {
        same(call, outcome(made), NUMBER);
    }

    static void fine(String call, Call made) {
        same(call, outcome(made), NOTHING);
    }

    /** The exception's name; one that the machine threw by itself says so. */
    static String outcome(Call made) {
        try {
            made.run();
            return NOTHING;
        } catch (RuntimeException e) {
            return nameOf(e);
        }
    }

    static String nameOf(RuntimeException e) {
        return (isMachines(e) ? "machine's " : "") + e.getClass().getSimpleName();
    }

    /** A hot machine throws without a trace; else its words for an index tell it. */
    private static boolean isMachines(RuntimeException e) {
        String told = e.getMessage();
        boolean ofIndex = told != null && told.contains(" out of bounds for length ");
        return ofIndex || e.getStackTrace().length == 0;
    }

    static void end(String test) {
        needAnswers();
        String looked = tests == 0 ? "" : tests + " tests, ";
        System.out.println(test + ": " + looked + done + " answers looked at, " + wrong + " not as due");
        if (wrong != 0 || done == 0) {
            System.exit(1);
        }
    }

    private static void report(String call, boolean right, String got, String due) {
        done++;
        doneBehind++;
        if (!right) {
            wrong++;
            System.out.println(where + call + " answered " + got + ", due is " + due);
        }
    }
}
