import java.math.BigInteger;

/** What the document says, word by word, in BigIntegers; wrong numbers are for ModelTest to know. */
final class Model {
    private static final BigInteger MOST_CHAIN = BigInteger.TEN.pow(15);

    final int n;
    final int[] above;
    final int[] below;
    long length = 1000;
    int shift = 8;
    int bass = 1000;
    int treble = 1000;
    int span = 1;
    BigInteger chainAbove = BigInteger.ONE;
    BigInteger chainBelow = BigInteger.ONE;
    long octaves = 0;
    long steps = 0;

    Model(int notes) {
        n = notes < 1 ? 1 : notes > 24 ? 24 : notes;
        above = new int[2 * n + 1];
        below = new int[2 * n + 1];
        for (int k = 0; k <= 2 * n; k++) {
            above[k] = 1;
            below[k] = 1;
        }
    }

    static BigInteger big(long number) {
        return BigInteger.valueOf(number);
    }

    long lower(long string, int k) {
        BigInteger most = big(string << shift).pow(n);
        long low = 0;
        long high = (string << shift) + 1;
        while (high - low > 1) {
            long w = (low + high) / 2;
            if (big(w).pow(n).shiftLeft(k).compareTo(most) <= 0) {
                low = w;
            } else {
                high = w;
            }
        }
        return low;
    }

    boolean exact(int k) {
        BigInteger most = big(length << shift).pow(n);
        return big(lower(length, k)).pow(n).shiftLeft(k).equals(most);
    }

    long fret(int k, boolean upper) {
        return lower(length, k) + (upper && !exact(k) ? 1 : 0);
    }

    void just(int k, int a, int b) {
        int shared = big(a).gcd(big(b)).intValue();
        above[k] = a / shared;
        below[k] = b / shared;
    }

    long leaves(int k) {
        return big(length << shift).multiply(big(below[k])).divide(big(above[k])).longValueExact();
    }

    /** The fraction's power to the times against 2 to the k. */
    private int against(int a, int b, int power, int k) {
        BigInteger fraction = big(a).pow(power);
        BigInteger twos = big(b).pow(power);
        return k >= 0 ? fraction.compareTo(twos.shiftLeft(k)) : fraction.shiftLeft(-k).compareTo(twos);
    }

    int beside(int k) {
        return against(above[k], below[k], n, k);
    }

    int nearest(int a, int b) {
        int k = 30 * n;
        while (against(a, b, n, k) < 0) {
            k--;
        }
        if (against(a, b, 2 * n, 2 * k + 1) > 0) {
            k++;
        }
        return Math.max(0, Math.min(2 * n, k));
    }

    boolean step(int a, int b) {
        BigInteger newAbove = chainAbove.multiply(big(a));
        BigInteger newBelow = chainBelow.multiply(big(b));
        long halved = 0;
        while (newAbove.compareTo(newBelow.shiftLeft(1)) >= 0) {
            newBelow = newBelow.shiftLeft(1);
            halved++;
        }
        while (newAbove.compareTo(newBelow) < 0) {
            newAbove = newAbove.shiftLeft(1);
            halved--;
        }
        BigInteger shared = newAbove.gcd(newBelow);
        newAbove = newAbove.divide(shared);
        newBelow = newBelow.divide(shared);
        if (newAbove.compareTo(MOST_CHAIN) > 0 || newBelow.compareTo(MOST_CHAIN) > 0) {
            return false;
        }
        chainAbove = newAbove;
        chainBelow = newBelow;
        octaves += halved;
        steps++;
        return true;
    }

    void clear() {
        chainAbove = BigInteger.ONE;
        chainBelow = BigInteger.ONE;
        octaves = 0;
        steps = 0;
    }

    long rest(int part) {
        long[] parts = {chainAbove.longValueExact(), chainBelow.longValueExact(), octaves, steps};
        return parts[part];
    }

    long beat(int a, int b, int hertz, int part) {
        BigInteger one = big(above[a]).multiply(big(below[b]));
        BigInteger other = big(above[b]).multiply(big(below[a]));
        BigInteger top = one.subtract(other).abs().multiply(big(hertz));
        BigInteger bottom = big(below[a]).multiply(big(below[b]));
        BigInteger shared = top.gcd(bottom);
        return (part == 0 ? top : bottom).divide(shared).longValueExact();
    }

    long cross(int k, int at, int part) {
        BigInteger sum = big(lower(bass, k)).multiply(big(span - at)).add(big(lower(treble, k)).multiply(big(at)));
        return sum.divideAndRemainder(big(span))[part].longValueExact();
    }

    int upright() {
        int best = 0;
        for (int k = 1; k <= 2 * n; k++) {
            if (slant(k) < slant(best)) {
                best = k;
            }
        }
        return best;
    }

    private long slant(int k) {
        return Math.abs(lower(bass, k) - lower(treble, k));
    }

    static long key(int note, long wide, int what) {
        boolean dark = note == 1 || note == 3 || note == 6 || note == 8 || note == 10;
        if (what >= 2) {
            return what == 3 ? (dark ? 1 : 0) : dark ? 24 : 84;
        }
        if (dark) {
            return wide * (2 * note + 1) + (what == 0 ? -wide : wide);
        }
        int i = (note + 1) / 2;
        return wide * (i + what) * 12;
    }
}
