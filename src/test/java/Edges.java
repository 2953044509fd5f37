/**
 * One call at both ends of what it takes (the last numbers that are taken), just beyond them (the
 * first that are refused), and far beyond, where a cast, a shift or a sum would wrap around.
 */
final class Edges {
    interface IntCall {
        void with(int number);
    }

    interface LongCall {
        void with(long number);
    }

    interface RealCall {
        void with(double number);
    }

    private Edges() {
    }

    static void ofPlace(String call, int least, int most, IntCall made) {
        ofInts(call, Check.PLACE, least, most, made);
    }

    static void ofNumber(String call, int least, int most, IntCall made) {
        ofInts(call, Check.NUMBER, least, most, made);
    }

    private static void ofInts(String call, String due, int least, int most, IntCall made) {
        for (int number : new int[] {least, most}) {
            Check.same(named(call, number), Check.outcome(() -> made.with(number)), Check.NOTHING);
        }
        int[] beyond = {least - 1, most + 1, Integer.MIN_VALUE, Integer.MAX_VALUE, least + (1 << 24), most - (1 << 24)};
        for (int number : beyond) {
            Check.same(named(call, number), Check.outcome(() -> made.with(number)), due);
        }
    }

    static void ofLong(String call, long least, long most, LongCall made) {
        for (long number : new long[] {least, most}) {
            Check.same(named(call, number), Check.outcome(() -> made.with(number)), Check.NOTHING);
        }
        long[] beyond = {least - 1, most + 1, Long.MIN_VALUE, Long.MAX_VALUE, least + (1L << 32), most - (1L << 32),
            Integer.MAX_VALUE, Integer.MIN_VALUE};
        for (long number : beyond) {
            Check.same(named(call, number), Check.outcome(() -> made.with(number)), Check.NUMBER);
        }
    }

    static void ofReal(String call, double least, double most, RealCall made) {
        for (double number : new double[] {least, most}) {
            Check.same(named(call, number), Check.outcome(() -> made.with(number)), Check.NOTHING);
        }
        double[] beyond = {Math.nextDown(least), Math.nextUp(most), -most, Double.NEGATIVE_INFINITY,
            Double.POSITIVE_INFINITY, Double.NaN};
        for (double number : beyond) {
            Check.same(named(call, number), Check.outcome(() -> made.with(number)), Check.NUMBER);
        }
    }

    private static String named(String call, Object number) {
        return call.replace("#", String.valueOf(number));
    }
}
