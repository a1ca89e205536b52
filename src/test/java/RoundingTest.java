import java.util.Random;

/** Promises 11 to 15, 18, 20, 22, 23, 25: what is rounded, against the plain model. */
public final class RoundingTest {
    private static final Due DUE = new Due();
    private static final TaperedNumbers X = new TaperedNumbers();
    /** A fixed seed: each run asks the same. */
    private static final Random RANDOM = new Random(20261118);

    public static void main(String[] args) {
        byHand();
        for (int w = 0; w <= 2; w++) {
            for (int n = 3; n <= 6; n++) {
                everyTwo(n, w);
            }
            for (int n = 3; n <= 4; n++) {
                everyThree(n, w);
            }
            for (int n = 3; n <= 12; n++) {
                everyOne(n, w);
                someOfAll(n, w);
            }
        }
        wrongInputs();
        DUE.end();
    }

    private static void byHand() {
        DUE.same("1/3", X.quotient(8, 1, 1, 3), 37);
        DUE.same("-1/3", X.quotient(8, 1, 1, -3), 256 - 37);
        DUE.same("0/0", X.quotient(8, 1, 0, 0), 128);
        DUE.same("bounds", X.quotient(12, 2, 1000000, -1000000), 4096 - 1024);
        DUE.same("beyond the greatest", X.both(4, 0, 7, 7, 2), 7);
        DUE.same("its off", X.off(4, 0, 7, 7, 2), -1);
        DUE.same("its negative's off", X.off(4, 0, 7, 9, 2), 1);
        DUE.same("below the least", X.both(4, 0, 15, 1, 2), 15);
        DUE.same("its off", X.off(4, 0, 15, 1, 2), -1);
        DUE.same("NIL times 0", X.both(4, 0, 8, 0, 2), 8);
        DUE.same("NIL's off", X.off(4, 0, 8, 0, 2), -2);
        DUE.same("0 by NIL", X.both(4, 0, 0, 8, 3), 8);
        DUE.same("root of 2: 1 and 53 by 128", X.root(12, 2, X.quotient(12, 2, 2, 1)), 1024 + 53);
        DUE.same("raised 0 of NIL", X.raised(8, 1, 128, 0), 64);
        DUE.same("raised 1 of NIL", X.raised(8, 1, 128, 1), 128);
        DUE.same("0.75 by 1", X.near(4, 0, 3, 1, 0), 1);
        DUE.same("1.5 by 1: the less above", X.near(4, 0, 5, 1, 0), 1);
        DUE.same("-1.5 by 1: the less above", X.near(4, 0, 11, 1, 0), -2);
        DUE.same("-1.5 by 2", X.near(4, 0, 11, 2, 0), -3);
        DUE.same("below the line", X.near(4, 0, 11, 1000, 1), 2);
        DUE.same("0", X.near(4, 0, 0, 1000, 1), 1);
        DUE.same("2 to the 40", X.near(12, 2, 2047, 1000, 0), 1L << 40);
        DUE.same("2 to the -40", X.near(12, 2, 1, 1000, 0), 0);
        DUE.same("pairs of 7", X.pairs(7, 0, 0), -2);
        DUE.same("pairs of 12", X.pairs(12, 2, 2), -2);
    }

    private static void everyTwo(int n, int w) {
        for (int a = 0; a < 1 << n; a++) {
            for (int b = 0; b < 1 << n; b++) {
                two(n, w, a, b);
            }
        }
        for (int what = 0; what <= 2; what++) {
            String call = "pairs(" + n + "," + w + "," + what + ")";
            DUE.same(call, X.pairs(n, w, what), Model.pairs(n, w, what));
            DUE.same(call + " again", X.pairs(n, w, what), Model.pairs(n, w, what));
        }
    }

    private static void two(int n, int w, int a, int b) {
        String call = "(" + n + "," + w + "," + a + "," + b + ",";
        for (int what = 0; what <= 3; what++) {
            DUE.same("both" + call + what, X.both(n, w, a, b, what), Model.both(n, w, a, b, what));
            DUE.same("off" + call + what, X.off(n, w, a, b, what), Model.off(n, w, a, b, what));
        }
        int[] steps = Model.steps(n, w, a, b);
        for (int what = 0; what <= 2; what++) {
            DUE.same("steps" + call + what, X.steps(n, w, a, b, what), steps[what]);
        }
    }

    private static void everyThree(int n, int w) {
        for (int a = 0; a < 1 << n; a++) {
            for (int b = 0; b < 1 << n; b++) {
                for (int c = 0; c < 1 << n; c++) {
                    DUE.same("fused(" + n + "," + w + "," + a + "," + b + "," + c, X.fused(n, w, a, b, c), Model.fused(n, w, a, b, c));
                }
            }
        }
    }

    private static void everyOne(int n, int w) {
        for (int a = 0; a < 1 << n; a++) {
            String call = "(" + n + "," + w + "," + a + ")";
            DUE.same("root" + call, X.root(n, w, a), Model.root(n, w, a));
            int m = 3 + RANDOM.nextInt(10);
            int u = RANDOM.nextInt(3);
            DUE.same("turned" + call + m + "," + u, X.turned(n, w, a, m, u), Model.rounded(m, u, Model.value(n, w, a)));
        }
    }

    private static void someOfAll(int n, int w) {
        for (int i = 0; i < 400; i++) {
            int a = someRow(n);
            int b = someRow(n);
            int c = someRow(n);
            two(n, w, a, b);
            DUE.same("fused(" + n + "," + w + "," + a + "," + b + "," + c, X.fused(n, w, a, b, c), Model.fused(n, w, a, b, c));
            int lost = Model.negative(n, X.both(n, w, a, b, 2));
            DUE.same("fused(" + n + "," + w + "," + a + "," + b + "," + lost, X.fused(n, w, a, b, lost), Model.fused(n, w, a, b, lost));
            for (int tiny : new int[] {1, (1 << n) - 1, 2, (1 << n) - 2}) {
                DUE.same("fused(" + n + "," + w + "," + a + "," + b + "," + tiny, X.fused(n, w, a, b, tiny), Model.fused(n, w, a, b, tiny));
            }
            quotient(n, w);
        }
        for (int i = 0; i < 20; i++) {
            int a = someRow(n);
            raised(n, w, a);
            near(n, w, a, 1 + RANDOM.nextInt(i < 3 ? 1000 : 40));
        }
    }

    /** Rows near 0, 1, the bounds and NIL as often as others. */
    private static int someRow(int n) {
        int near = RANDOM.nextInt(8);
        int all = 1 << n;
        return near < 4 ? RANDOM.nextInt(all) : (near * (all / 4) + RANDOM.nextInt(9) - 4 + all) % all;
    }

    private static void quotient(int n, int w) {
        int bits = 1 + RANDOM.nextInt(20);
        int a = Math.min(1000000, RANDOM.nextInt(1 << bits)) * (RANDOM.nextBoolean() ? 1 : -1);
        int b = Math.min(1000000, RANDOM.nextInt(1 << (1 + RANDOM.nextInt(20)))) * (RANDOM.nextBoolean() ? 1 : -1);
        Model.Frac v = Model.Frac.of(a, 1).by(Model.Frac.of(b, 1));
        DUE.same("quotient(" + n + "," + w + "," + a + "," + b + ")", X.quotient(n, w, a, b), Model.rounded(n, w, v));
    }

    private static void raised(int n, int w, int a) {
        int result = Model.rounded(n, w, Model.Frac.of(1, 1));
        for (int k = 0; k <= 50; k++) {
            DUE.same("raised(" + n + "," + w + "," + a + "," + k + ")", X.raised(n, w, a, k), result);
            result = Model.both(n, w, result, a, 2);
        }
    }

    private static void near(int n, int w, int a, int q) {
        boolean nil = a == Model.nil(n);
        long[] want = nil ? new long[] {-1000000000000000L, -1000000000000000L} : Model.near(n, w, a, q);
        for (int what = 0; what <= 1; what++) {
            DUE.same("near(" + n + "," + w + "," + a + "," + q + "," + what + ")", X.near(n, w, a, q, what), want[what]);
        }
    }

    private static void wrongInputs() {
        int[][] none = {{2, 0, 0}, {13, 0, 0}, {4, -1, 0}, {4, 3, 0}, {4, 0, -1}, {4, 0, 16}, {12, 2, 4096},
            {-2147483648, 0, 0}, {2147483647, 0, 0}, {4, 0, 2147483647}, {32, 0, 0}, {35, 1, 1}, {4, 0, -2147483648}};
        for (int[] p : none) {
            wrongRow(p[0], p[1], p[2]);
        }
        for (int what : new int[] {-1, 4, -2147483648, 2147483647}) {
            DUE.same("both what", X.both(4, 0, 4, 4, what), -1);
            DUE.same("off what", X.off(4, 0, 4, 8, what), -1);
            DUE.same("steps what", X.steps(4, 0, 4, 4, what == 4 ? 3 : what), -1);
            DUE.same("near what", X.near(4, 0, 4, 5, what == 4 ? 2 : what), -1000000000000000L);
            DUE.same("pairs what", X.pairs(4, 0, what == 4 ? 3 : what), -1);
            DUE.same("pairs what of 7", X.pairs(7, 0, what == 4 ? 3 : what), -1);
            DUE.same("near q", X.near(4, 0, 4, what == 4 ? 1001 : what == -1 ? 0 : what, 0), -1000000000000000L);
            DUE.same("raised k", X.raised(4, 0, 4, what == 4 ? 51 : what), -1);
        }
        for (int far : new int[] {1000001, -1000001, 2147483647, -2147483648}) {
            DUE.same("quotient", X.quotient(4, 0, far, 1), -1);
            DUE.same("quotient", X.quotient(4, 0, 1, far), -1);
            DUE.same("quotient by 0", X.quotient(4, 0, far, 0), -1);
        }
        DUE.same("pairs of no size", X.pairs(13, 0, 0), -1);
        DUE.same("pairs of no size", X.pairs(2, 0, 0), -1);
        DUE.same("pairs of no width", X.pairs(7, 3, 0), -1);
        DUE.same("turned to no size", X.turned(4, 0, 4, 13, 0), -1);
        DUE.same("turned to no width", X.turned(4, 0, 4, 3, 3), -1);
    }

    private static void wrongRow(int n, int w, int a) {
        DUE.same("both", X.both(n, w, a, 0, 0), -1);
        DUE.same("both", X.both(n, w, 0, a, 3), -1);
        DUE.same("off", X.off(n, w, a, 0, 3), -1);
        DUE.same("off", X.off(n, w, 0, a, 3), -1);
        DUE.same("root", X.root(n, w, a), -1);
        DUE.same("turned", X.turned(n, w, a, 4, 0), -1);
        DUE.same("fused", X.fused(n, w, a, 0, 0), -1);
        DUE.same("fused", X.fused(n, w, 0, a, 0), -1);
        DUE.same("fused", X.fused(n, w, 0, 0, a), -1);
        DUE.same("steps", X.steps(n, w, a, 0, 0), -1);
        DUE.same("steps", X.steps(n, w, 0, a, 0), -1);
        DUE.same("raised", X.raised(n, w, a, 0), -1);
        DUE.same("near", X.near(n, w, a, 1, 0), -1000000000000000L);
        if (a == 0) {
            DUE.same("quotient", X.quotient(n, w, 1, 1), -1);
            DUE.same("pairs", X.pairs(n, w, 0), -1);
        }
    }
}
