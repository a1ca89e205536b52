import java.math.BigInteger;
import java.util.ArrayList;
import java.util.List;

/** The document's part II again, in fractions of great whole numbers, as slowly and plainly as can be. */
final class Model {
    /** A fraction; null stands for NIL. */
    static final class Frac {
        final BigInteger over;
        final BigInteger below;

        Frac(BigInteger over, BigInteger below) {
            BigInteger by = below.signum() < 0 ? BigInteger.ONE.negate() : BigInteger.ONE;
            this.over = over.multiply(by);
            this.below = below.multiply(by);
        }

        static Frac of(long over, long below) {
            return new Frac(BigInteger.valueOf(over), BigInteger.valueOf(below));
        }

        static Frac powerOf2(int power) {
            BigInteger size = BigInteger.ONE.shiftLeft(Math.abs(power));
            return power < 0 ? new Frac(BigInteger.ONE, size) : new Frac(size, BigInteger.ONE);
        }

        int sign() {
            return over.signum();
        }

        Frac negated() {
            return new Frac(over.negate(), below);
        }

        Frac bare() {
            return new Frac(over.abs(), below);
        }

        Frac plus(Frac o) {
            return new Frac(over.multiply(o.below).add(o.over.multiply(below)), below.multiply(o.below));
        }

        Frac minus(Frac o) {
            return plus(o.negated());
        }

        Frac times(Frac o) {
            return new Frac(over.multiply(o.over), below.multiply(o.below));
        }

        Frac by(Frac o) {
            return o.sign() == 0 ? null : new Frac(over.multiply(o.below), below.multiply(o.over));
        }

        int compare(Frac o) {
            return over.multiply(o.below).compareTo(o.over.multiply(below));
        }

        BigInteger floor() {
            BigInteger[] parts = over.divideAndRemainder(below);
            return parts[1].signum() < 0 ? parts[0].subtract(BigInteger.ONE) : parts[0];
        }

        /** The nearest whole number, of two alike near the even one. */
        BigInteger nearest() {
            BigInteger floor = floor();
            int half = minus(new Frac(floor, BigInteger.ONE)).compare(of(1, 2));
            boolean up = half > 0 || half == 0 && floor.testBit(0);
            return up ? floor.add(BigInteger.ONE) : floor;
        }

        long whole() {
            BigInteger bound = BigInteger.valueOf(2000000000L);
            return nearest().min(bound).max(bound.negate()).longValue();
        }
    }

    private static final Frac[][] VALUES = new Frac[14 * 3][];

    static int nil(int n) {
        return 1 << (n - 1);
    }

    static int negative(int n, int a) {
        return ((1 << n) - a) % (1 << n);
    }

    static boolean isSize(int n, int w) {
        return n >= 3 && n <= 12 && w >= 0 && w <= 2;
    }

    static boolean isRow(int n, int w, int a) {
        return isSize(n, w) && a >= 0 && a < 1 << n;
    }

    /** RUN's bits, REGIME, EXPONENT, f, FRACTION of a row above 0, read off its bits one by one. */
    static int[] parts(int n, int w, int a) {
        String bits = bits(n, a).substring(1);
        char like = bits.charAt(0);
        int run = 0;
        while (run < bits.length() && bits.charAt(run) == like) {
            run++;
        }
        String rest = run + 1 < bits.length() ? bits.substring(run + 1) : "";
        StringBuilder exponent = new StringBuilder("0").append(rest, 0, Math.min(w, rest.length()));
        for (int i = rest.length(); i < w; i++) {
            exponent.append('0');
        }
        String fraction = rest.substring(Math.min(w, rest.length()));
        return new int[] {run, like == '1' ? run - 1 : -run, Integer.parseInt(exponent.toString(), 2),
            fraction.length(), Integer.parseInt("0" + fraction, 2)};
    }

    private static String bits(int n, int a) {
        StringBuilder bits = new StringBuilder();
        for (int i = n - 1; i >= 0; i--) {
            bits.append(a >> i & 1);
        }
        return bits.toString();
    }

    /** The value of a row (of SIZE 13, too); null of NIL. */
    static Frac value(int n, int w, int a) {
        Frac[] values = VALUES[n * 3 + w];
        if (values == null) {
            values = new Frac[1 << n];
            VALUES[n * 3 + w] = values;
        }
        if (values[a] == null && a != nil(n)) {
            values[a] = workedOutValue(n, w, a);
        }
        return values[a];
    }

    private static Frac workedOutValue(int n, int w, int a) {
        if (a == 0) {
            return Frac.of(0, 1);
        }
        if (a > nil(n)) {
            return workedOutValue(n, w, negative(n, a)).negated();
        }
        int[] p = parts(n, w, a);
        Frac scale = Frac.powerOf2(p[1] * (1 << w) + p[2]);
        return scale.times(Frac.of((1L << p[3]) + p[4], 1L << p[3]));
    }

    /** How a number above 0 that is asked for compares with a value. */
    interface Asked {
        int compare(Frac value);
    }

    static int rounded(int n, int w, Frac v) {
        if (v == null) {
            return nil(n);
        }
        if (v.sign() == 0) {
            return 0;
        }
        Frac bare = v.bare();
        int row = roundedBare(n, w, bare::compare);
        return v.sign() > 0 ? row : negative(n, row);
    }

    static int root(int n, int w, int a) {
        Frac v = value(n, w, a);
        if (v == null || v.sign() < 0) {
            return nil(n);
        }
        return v.sign() == 0 ? 0 : roundedBare(n, w, o -> v.compare(o.times(o)));
    }

    private static int roundedBare(int n, int w, Asked v) {
        int greatest = nil(n) - 1;
        if (v.compare(value(n, w, greatest)) >= 0) {
            return greatest;
        }
        if (v.compare(value(n, w, 1)) <= 0) {
            return 1;
        }
        int p = 1;
        int more = greatest;
        while (more - p > 1) {
            int middle = (p + more) / 2;
            if (v.compare(value(n, w, middle)) >= 0) {
                p = middle;
            } else {
                more = middle;
            }
        }
        if (v.compare(value(n, w, p)) == 0) {
            return p;
        }
        int half = v.compare(value(n + 1, w, 2 * p + 1));
        return half < 0 ? p : half > 0 ? p + 1 : p % 2 == 0 ? p : p + 1;
    }

    /** What both() rounds; null: NIL. */
    static Frac exact(int n, int w, int a, int b, int what) {
        Frac x = value(n, w, a);
        Frac y = value(n, w, b);
        if (x == null || y == null) {
            return null;
        }
        return what == 0 ? x.plus(y) : what == 1 ? x.minus(y) : what == 2 ? x.times(y) : x.by(y);
    }

    static int both(int n, int w, int a, int b, int what) {
        return rounded(n, w, exact(n, w, a, b, what));
    }

    static int off(int n, int w, int a, int b, int what) {
        Frac v = exact(n, w, a, b, what);
        return v == null ? -2 : value(n, w, rounded(n, w, v)).compare(v);
    }

    static int fused(int n, int w, int a, int b, int c) {
        Frac product = exact(n, w, a, b, 2);
        Frac last = value(n, w, c);
        return rounded(n, w, product == null || last == null ? null : product.plus(last));
    }

    static int[] steps(int n, int w, int a, int x) {
        List<Integer> came = new ArrayList<>();
        int last = x;
        do {
            came.add(last);
            int sum = both(n, w, last, both(n, w, a, last, 3), 0);
            Frac v = value(n, w, sum);
            last = rounded(n, w, v == null ? null : v.times(Frac.of(1, 2)));
        } while (last != nil(n) && !came.contains(last));
        int round = last == nil(n) ? 0 : came.size() - came.indexOf(last);
        return new int[] {came.size(), last, round};
    }

    static long[] near(int n, int w, int a, int q) {
        Frac v = value(n, w, a);
        Frac best = null;
        for (int below = 1; below <= q; below++) {
            BigInteger floor = v.times(Frac.of(below, 1)).floor();
            for (int more = 0; more <= 1; more++) {
                Frac one = new Frac(floor.add(BigInteger.valueOf(more)), BigInteger.valueOf(below));
                if (best == null || one.minus(v).bare().compare(best.minus(v).bare()) < 0) {
                    best = one;
                }
            }
        }
        return new long[] {best.over.longValueExact(), best.below.longValueExact()};
    }

    static int pairs(int n, int w, int what) {
        int count = 0;
        for (int a = 0; a < 1 << n; a++) {
            for (int b = 0; b < 1 << n; b++) {
                Frac v = exact(n, w, a, b, what == 0 ? 0 : what + 1);
                count += v != null && value(n, w, rounded(n, w, v)).compare(v) == 0 ? 1 : 0;
            }
        }
        return count;
    }
}
