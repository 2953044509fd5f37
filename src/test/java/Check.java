/** What every test here uses: counts answers that are not due, prints them, ends with 1 if there was one. */
final class Check {
    interface Call {
        void run();
    }

    private static int done = 0;
    private static int wrong = 0;

    private Check() {
    }

    static void same(String call, long got, long due) {
        report(call, got == due, String.valueOf(got), String.valueOf(due));
    }

    static void same(String call, boolean got, boolean due) {
        report(call, got == due, String.valueOf(got), String.valueOf(due));
    }

    static void same(String call, double got, double due) {
        report(call, got == due, String.valueOf(got), String.valueOf(due));
    }

    static void same(String call, String got, String due) {
        report(call, got.equals(due), got, due);
    }

    static void noPlace(String call, Call made) {
        same(call, outcome(made), "ArrayIndexOutOfBoundsException");
    }

    static void noNumber(String call, Call made) {
        same(call, outcome(made), "IllegalArgumentException");
    }

    static void fine(String call, Call made) {
        same(call, outcome(made), "nothing");
    }

    /** The exception's name; one that the machine threw by itself says so. */
    static String outcome(Call made) {
        try {
            made.run();
            return "nothing";
        } catch (RuntimeException e) {
            return nameOf(e);
        }
    }

    static String nameOf(RuntimeException e) {
        String told = e.getMessage();
        boolean machine = told == null || told.startsWith("Index ");
        return (machine ? "machine's " : "") + e.getClass().getSimpleName();
    }

    static void end(String test) {
        System.out.println(test + ": " + done + " answers looked at, " + wrong + " not as due");
        if (wrong != 0 || done == 0) {
            System.exit(1);
        }
    }

    private static void report(String call, boolean right, String got, String due) {
        done++;
        if (!right) {
            wrong++;
            System.out.println(call + " answered " + got + ", due is " + due);
        }
    }
}
