import java.util.Arrays;

/** Numbers of instruments: frets, just fractions, chains, beats, fans, keys, pulls and pipes. */
public final class FretRoots {
    public static final int NONE = -1;

    private static final int MOST_NOTES = 24;
    private static final int MOST_LENGTH = 1000000;
    private static final int MOST_SHIFT = 16;
    private static final int MOST_NUMBER = 1000000;
    private static final int MOST_HERTZ = 100000;
    private static final int MOST_SPAN = 1000;
    private static final int MOST_WIDE = 1000000;
    private static final int FIRST_LENGTH = 1000;
    private static final int FIRST_SHIFT = 8;

    /** For each note of an octave which white key it is, or NONE for a dark one. */
    private static final int[] WHITE_KEYS = {0, -1, 1, -1, 2, 3, -1, 4, -1, 5, -1, 6};
    private static final int WHITE_PARTS = 84;
    private static final int DARK_PARTS = 24;

    private final int notes;
    private final double[] roots;
    private final int[] justAbove;
    private final int[] justBelow;
    private final FretRow scaleRow;
    private final FretRow bassRow;
    private final FretRow trebleRow;
    private final Chain chain = new Chain();
    private final BigNumber left = new BigNumber();
    private final BigNumber right = new BigNumber();
    private int shift = FIRST_SHIFT;
    private int span = 1;

    public FretRoots(int notes) {
        this.notes = Math.max(1, Math.min(MOST_NOTES, notes));
        roots = rootsOfTwo(this.notes);
        justAbove = new int[2 * this.notes + 1];
        justBelow = new int[2 * this.notes + 1];
        Arrays.fill(justAbove, 1);
        Arrays.fill(justBelow, 1);
        scaleRow = new FretRow(this.notes);
        bassRow = new FretRow(this.notes);
        trebleRow = new FretRow(this.notes);
    }

    public void scale(long length, int shift) throws IllegalArgumentException {
        needWithin(length, 1, MOST_LENGTH);
        needWithin(shift, 0, MOST_SHIFT);
        this.shift = shift;
        scaleRow.measure(length, shift);
        bassRow.measure(bassRow.length, shift);
        trebleRow.measure(trebleRow.length, shift);
    }

    public long fret(int k, boolean upper) throws ArrayIndexOutOfBoundsException {
        needPlace(k);
        long lower = lowerEnd(scaleRow, k);
        return upper && !endsMeet(k, lower) ? lower + 1 : lower;
    }

    public boolean exact(int k) throws ArrayIndexOutOfBoundsException {
        needPlace(k);
        return endsMeet(k, lowerEnd(scaleRow, k));
    }

    public void just(int k, int above, int below)
            throws ArrayIndexOutOfBoundsException, IllegalArgumentException {
        needPlace(k);
        needWithin(above, 1, MOST_NUMBER);
        needWithin(below, 1, MOST_NUMBER);
        long shared = commonDivisor(above, below);
        justAbove[k] = (int) quotient(above, shared);
        justBelow[k] = (int) quotient(below, shared);
    }

    public int justAt(int k, int part) throws ArrayIndexOutOfBoundsException {
        needPlace(k);
        needPart(part, 2);
        return part == 0 ? justAbove[k] : justBelow[k];
    }

    public long leaves(int k) throws ArrayIndexOutOfBoundsException {
        needPlace(k);
        return quotient(scaleRow.whole * justBelow[k], justAbove[k]);
    }

    public int beside(int k) throws ArrayIndexOutOfBoundsException {
        needPlace(k);
        left.setPower(justAbove[k], notes);
        right.setPower(justBelow[k], notes);
        right.doubleTimes(k);
        return left.compareWith(right);
    }

    public int nearest(int above, int below) throws IllegalArgumentException {
        needWithin(above, 1, MOST_NUMBER);
        needWithin(below, 1, MOST_NUMBER);
        // Below 1 the greatest k is below 0, so the next one is at most 0.
        if (above < below) {
            return 0;
        }
        int k = lastNotAbove(above, below);
        return k < 2 * notes && isPastMiddle(above, below, k) ? k + 1 : k;
    }

    public boolean step(int above, int below) throws IllegalArgumentException {
        needWithin(above, 1, MOST_NUMBER);
        needWithin(below, 1, MOST_NUMBER);
        long shared = commonDivisor(above, below);
        return chain.advance(quotient(above, shared), quotient(below, shared));
    }

    public void clear() {
        chain.restart();
    }

    public long rest(int part) throws ArrayIndexOutOfBoundsException {
        needPart(part, 4);
        switch (part) {
            case 0:
                return chain.above;
            case 1:
                return chain.below;
            case 2:
                return chain.octaves;
            default:
                return chain.steps;
        }
    }

    public long beat(int a, int b, int hertz, int part)
            throws ArrayIndexOutOfBoundsException, IllegalArgumentException {
        needPlace(a);
        needPlace(b);
        needPart(part, 2);
        needWithin(hertz, 1, MOST_HERTZ);
        long apart = (long) justAbove[a] * justBelow[b] - (long) justAbove[b] * justBelow[a];
        long above = (apart < 0 ? -apart : apart) * hertz;
        long below = (long) justBelow[a] * justBelow[b];
        return quotient(part == 0 ? above : below, commonDivisor(above, below));
    }

    public void fan(int bass, int treble, int span) throws IllegalArgumentException {
        needWithin(bass, 1, MOST_LENGTH);
        needWithin(treble, 1, MOST_LENGTH);
        needWithin(span, 1, MOST_SPAN);
        this.span = span;
        bassRow.measure(bass, shift);
        trebleRow.measure(treble, shift);
    }

    public long cross(int k, int at, int part)
            throws ArrayIndexOutOfBoundsException, IllegalArgumentException {
        needPlace(k);
        needPart(part, 2);
        needWithin(at, 0, span);
        long sum = lowerEnd(bassRow, k) * (span - at) + lowerEnd(trebleRow, k) * at;
        long whole = quotient(sum, span);
        return part == 0 ? whole : sum - whole * span;
    }

    public int upright() {
        int best = 0;
        long least = Long.MAX_VALUE;
        for (int k = 0; k <= 2 * notes; k++) {
            long slant = Math.abs(lowerEnd(bassRow, k) - lowerEnd(trebleRow, k));
            if (slant < least) {
                least = slant;
                best = k;
            }
        }
        return best;
    }

    public long key(int note, long wide, int what)
            throws ArrayIndexOutOfBoundsException, IllegalArgumentException {
        needPart(what, 4);
        if (note < 0 || note >= WHITE_KEYS.length) {
            throw new ArrayIndexOutOfBoundsException("no such note");
        }
        needWithin(wide, 1, MOST_WIDE);
        int white = WHITE_KEYS[note];
        boolean dark = white == NONE;
        switch (what) {
            case 2:
                return dark ? DARK_PARTS : WHITE_PARTS;
            case 3:
                return dark ? 1 : 0;
            default:
                // A dark key's middle is half its width, one part of 24, off its edges.
                return wide * (dark ? 2 * (note + what) : 12 * (white + what));
        }
    }

    public double pull(double hertz, double length, double weight) throws IllegalArgumentException {
        needReal(hertz, 0.0, 10000.0);
        needReal(length, 0.0, 10000.0);
        needReal(weight, 0.0, 10000.0);
        return 4.0 * weight * length * length * hertz * hertz;
    }

    public double pipe(double hertz, boolean open, double mouth) throws IllegalArgumentException {
        needReal(hertz, 1.0, 10000.0);
        needReal(mouth, 0.0, 100.0);
        return 340.0 / hertz / (open ? 2.0 : 4.0) - 0.75 * mouth;
    }

    private void needPlace(int k) {
        if (k < 0 || k >= justAbove.length || k >= justBelow.length) {
            throw new ArrayIndexOutOfBoundsException("no such fret or place");
        }
    }

    private static void needPart(int part, int parts) {
        if (part < 0 || part >= parts) {
            throw new ArrayIndexOutOfBoundsException("no such part");
        }
    }

    private static void needWithin(long number, long least, long most) {
        if (number < least || number > most) {
            throw new IllegalArgumentException("a number is too small or too great");
        }
    }

    private static void needReal(double number, double least, double most) {
        // Asked this way round, NaN is refused too.
        if (!(number >= least && number <= most)) {
            throw new IllegalArgumentException("a number is too small or too great");
        }
    }

    private int octaveOf(int k) {
        if (k < notes) {
            return 0;
        }
        return k < 2 * notes ? 1 : 2;
    }

    /** An octave on, a fret leaves half: cut off twice is cut off once, so one octave is enough to find. */
    private long lowerEnd(FretRow row, int k) {
        int octave = octaveOf(k);
        int within = k - octave * notes;
        if (within < 0 || within >= row.ends.length) {
            return 0;
        }
        if (row.ends[within] == NONE) {
            row.ends[within] = greatestEnd(row.whole, within);
        }
        return row.ends[within] >> octave;
    }

    /** Between octaves a root of two is no fraction, so there the ends never meet. */
    private boolean endsMeet(int k, long lower) {
        int octave = octaveOf(k);
        return k == octave * notes && lower << octave == scaleRow.whole;
    }

    /**
     * The greatest w with w^notes * 2^k not above whole^notes. The guess from doubles only makes
     * the search short; what is answered has been compared in whole numbers.
     */
    private long greatestEnd(long whole, int k) {
        if (k < 1 || k >= roots.length) {
            return whole;
        }
        long guess = (long) ((double) whole / roots[k]);
        left.setPower(whole, notes);
        long low = 0;
        long high = whole + 1;
        for (int i = 0; i < 64 && high - low > 1; i++) {
            long probe = nextProbe(i, guess, low, high);
            if (isNotAboveLeft(probe, k)) {
                low = probe;
            } else {
                high = probe;
            }
        }
        return low;
    }

    /** First the guess, then its neighbour on the open side, then halves; always between low and high. */
    private static long nextProbe(int i, long guess, long low, long high) {
        long probe = low + (high - low) / 2;
        if (i == 0) {
            probe = guess;
        } else if (i == 1) {
            probe = low == guess ? guess + 1 : guess - 1;
        }
        return Math.max(low + 1, Math.min(high - 1, probe));
    }

    private boolean isNotAboveLeft(long end, int k) {
        right.setPower(end, notes);
        right.doubleTimes(k);
        return right.compareWith(left) <= 0;
    }

    /** The greatest k of 0 .. 2 notes with 2^(k / notes) not above a fraction of at least 1. */
    private int lastNotAbove(int above, int below) {
        left.setPower(above, notes);
        right.setPower(below, notes);
        for (int k = 0; k < 2 * notes; k++) {
            right.doubleTimes(1);
            if (right.compareWith(left) > 0) {
                return k;
            }
        }
        return 2 * notes;
    }

    private boolean isPastMiddle(int above, int below, int k) {
        left.setPower(above, 2 * notes);
        right.setPower(below, 2 * notes);
        right.doubleTimes(2 * k + 1);
        return left.compareWith(right) > 0;
    }

    private static double[] rootsOfTwo(int notes) {
        double[] row = new double[Math.max(1, notes)];
        double root = rootOfTwo(notes);
        double power = 1.0;
        for (int k = 0; k < row.length; k++) {
            row[k] = power;
            power = power * root;
        }
        return row;
    }

    /** Newton's steps from above; eight are enough for 24 notes and all fewer. */
    private static double rootOfTwo(int notes) {
        double root = 1.0 + 1.0 / notes;
        for (int i = 0; i < 8; i++) {
            double power = 1.0;
            for (int k = 1; k < notes; k++) {
                power = power * root;
            }
            root = root - (power * root - 2.0) / (power * notes);
        }
        return root;
    }

    /** Every division by a number that is no constant comes here, where the divisor is looked at. */
    private static long quotient(long number, long divisor) {
        return divisor == 0 ? 0 : number / divisor;
    }

    private static long commonDivisor(long a, long b) {
        long greater = a;
        long lesser = b;
        // Two rounds halve the greater one, so 63 bits end within 126 rounds.
        for (int i = 0; i < 200 && lesser != 0; i++) {
            long remains = greater % lesser;
            greater = lesser;
            lesser = remains;
        }
        return greater;
    }

    /** The lower ends of one length's frets within the first octave: each is found once and kept. */
    private static final class FretRow {
        final long[] ends;
        long length;
        long whole;

        FretRow(int notes) {
            ends = new long[Math.max(1, notes)];
            length = FIRST_LENGTH;
            whole = (long) FIRST_LENGTH << FIRST_SHIFT;
            Arrays.fill(ends, NONE);
        }

        void measure(long newLength, int shift) {
            length = newLength;
            whole = newLength << shift;
            Arrays.fill(ends, NONE);
        }
    }

    /** A fraction from 1 to below 2 that steps change. */
    private static final class Chain {
        static final long MOST = 1000000000000000L;

        long above = 1;
        long below = 1;
        long octaves = 0;
        long steps = 0;

        void restart() {
            above = 1;
            below = 1;
            octaves = 0;
            steps = 0;
        }

        /**
         * Times a fraction without a common divisor. Octaves only move twos, so the odd parts are
         * multiplied first: only they can make the step too great, and their product is looked at
         * before it can leave a long.
         */
        boolean advance(long stepAbove, long stepBelow) {
            long crossAbove = commonDivisor(above, stepBelow);
            long crossBelow = commonDivisor(stepAbove, below);
            long a = quotient(above, crossAbove);
            long b = quotient(stepAbove, crossBelow);
            long c = quotient(below, crossBelow);
            long d = quotient(stepBelow, crossAbove);
            int twos = twosIn(a) + twosIn(b) - twosIn(c) - twosIn(d);
            long oddAbove = productOrNone(oddPart(a), oddPart(b));
            long oddBelow = productOrNone(oddPart(c), oddPart(d));
            return oddAbove != NONE && oddBelow != NONE && settle(oddAbove, oddBelow, twos);
        }

        /** Puts the twos back in so that the fraction is within its octave. */
        private boolean settle(long oddAbove, long oddBelow, int twos) {
            long newAbove = oddAbove;
            long newBelow = oddBelow;
            int kept = 0;
            for (int i = 0; i < 64 && newAbove >= 2 * newBelow; i++) {
                newBelow = 2 * newBelow;
                kept--;
            }
            for (int i = 0; i < 64 && newAbove < newBelow; i++) {
                newAbove = 2 * newAbove;
                kept++;
            }
            if (newAbove > MOST || newBelow > MOST) {
                return false;
            }
            above = newAbove;
            below = newBelow;
            octaves = octaves + twos - kept;
            steps++;
            return true;
        }

        private static long productOrNone(long a, long b) {
            return a > quotient(MOST, b) ? NONE : a * b;
        }

        private static long oddPart(long number) {
            return number >> twosIn(number);
        }

        private static int twosIn(long number) {
            int twos = 0;
            for (int i = 0; i < 63 && (number >> i & 1) == 0; i++) {
                twos++;
            }
            return twos;
        }
    }

    /**
     * A whole number of at least 1 in digits of 26 bits, the lowest first. The greatest one that a
     * promise needs is nearest's 1000000^48 * 2, of 958 bits; the digits hold 1040.
     */
    private static final class BigNumber {
        static final int DIGITS = 40;
        static final int BITS = 26;
        static final long MASK = (1L << BITS) - 1;

        final long[] digits = new long[DIGITS];
        int used = 0;

        /** The base stays below 2^36, so that a digit's product stays within a long. */
        void setPower(long base, int exponent) {
            used = 0;
            append(1);
            for (int i = 0; i < exponent; i++) {
                multiply(base);
            }
        }

        void doubleTimes(int times) {
            for (int open = times; open > 0; open = open - BITS) {
                multiply(1L << Math.min(open, BITS));
            }
        }

        int compareWith(BigNumber other) {
            if (used != other.used) {
                return used < other.used ? -1 : 1;
            }
            for (int i = Math.min(used, DIGITS) - 1; i >= 0; i--) {
                if (digits[i] != other.digits[i]) {
                    return digits[i] < other.digits[i] ? -1 : 1;
                }
            }
            return 0;
        }

        private void multiply(long factor) {
            long carry = 0;
            for (int i = 0; i < used && i < digits.length; i++) {
                long product = digits[i] * factor + carry;
                digits[i] = product & MASK;
                carry = product >> BITS;
            }
            append(carry);
        }

        private void append(long number) {
            long open = number;
            for (int i = used; open > 0 && i < digits.length; i++) {
                digits[i] = open & MASK;
                open = open >> BITS;
                used = i + 1;
            }
        }
    }
}
