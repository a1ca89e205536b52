import java.math.BigDecimal;
import java.math.BigInteger;

/** Promises 10, 16, 17, 19: what one row and two rows are, each row of each size. */
public final class RowTest {
    private static final int NO_SUCH = -100000;
    private static final Due DUE = new Due();
    private static final TaperedNumbers X = new TaperedNumbers();

    public static void main(String[] args) {
        byHand();
        for (int n = 3; n <= 12; n++) {
            for (int w = 0; w <= 2; w++) {
                everyRow(n, w);
            }
        }
        for (int n = 3; n <= 6; n++) {
            everyTwo(n);
        }
        wrongInputs();
        DUE.end();
    }

    /** SIZE 8, WIDE 1: 0 10 1 1000 is 2 to the 1 times 1.5; 0 0001 1 01 is 2 to the -5 times 1.25. */
    private static void byHand() {
        int[] wanted = {1, 1, 0, 1, 4, 8, 3, 0, 3, 168, 89, 87};
        for (int what = 0; what < wanted.length; what++) {
            DUE.same("row(8,1,88," + what + ")", X.row(8, 1, 88, what), wanted[what]);
        }
        int[] small = {-1, 3, -3, 1, 2, 1, 5, -7, 0, 13, 244, 242};
        for (int what = 0; what < small.length; what++) {
            DUE.same("row(8,1,243," + what + ")", X.row(8, 1, 243, what), small[what]);
        }
        DUE.same("tie to even below", X.row(4, 0, 2, 8), 0);
        DUE.same("tie to even above", X.row(4, 0, 5, 8), 2);
        DUE.same("exponent's lacking bit", X.row(5, 2, 13, 3), 2);
        DUE.same("greatest has none above", X.row(12, 2, 2047, 10), -2);
        DUE.same("least has none below", X.row(12, 2, 2049, 11), -2);
        DUE.yes("2 to the -8", Due.written(X, 4, 2, 1).equals("0.00390625"));
    }

    private static void everyRow(int n, int w) {
        for (int a = 0; a < 1 << n; a++) {
            String call = "(" + n + "," + w + "," + a + ") ";
            DUE.same("negative" + call, X.row(n, w, a, 9), Model.negative(n, a));
            if (a == Model.nil(n)) {
                for (int what : new int[] {0, 1, 2, 3, 4, 5, 6, 7, 8, 10, 11}) {
                    DUE.same("row of NIL" + call + what, X.row(n, w, a, what), NO_SUCH);
                }
                DUE.yes("nil" + call, Due.written(X, n, w, a).equals("nil"));
                continue;
            }
            Model.Frac v = Model.value(n, w, a);
            DUE.same("sign" + call, X.row(n, w, a, 0), v.sign());
            DUE.same("whole" + call, X.row(n, w, a, 8), v.whole());
            neighbours(n, w, a, call);
            parts(n, w, a, call);
            String want = new BigDecimal(v.over).divide(new BigDecimal(v.below)).stripTrailingZeros().toPlainString();
            DUE.yes("written" + call + want, Due.written(X, n, w, a).equals(want));
            DUE.same("byte behind" + call, X.written(n, w, a, want.length()), -1);
            DUE.same("byte -2" + call, X.written(n, w, a, -2), -1);
        }
    }

    private static void neighbours(int n, int w, int a, String call) {
        int more = X.row(n, w, a, 10);
        int less = X.row(n, w, a, 11);
        DUE.same("none above" + call, more == -2, a == Model.nil(n) - 1);
        DUE.same("none below" + call, less == -2, a == Model.nil(n) + 1);
        if (more != -2) {
            DUE.same("next" + call, Model.value(n, w, more).compare(Model.value(n, w, a)), 1);
            DUE.same("back from next" + call, X.row(n, w, more, 11), a);
        }
    }

    private static void parts(int n, int w, int a, String call) {
        if (a == 0) {
            for (int what = 1; what <= 7; what++) {
                DUE.same("row of 0 " + what, X.row(n, w, a, what), NO_SUCH);
            }
            return;
        }
        int[] parts = Model.parts(n, w, a > Model.nil(n) ? Model.negative(n, a) : a);
        for (int i = 0; i < parts.length; i++) {
            DUE.same("part" + call + i, X.row(n, w, a, i + 1), parts[i]);
        }
        int mant = X.row(n, w, a, 6);
        Model.Frac told = Model.Frac.powerOf2(X.row(n, w, a, 7)).times(new Model.Frac(BigInteger.valueOf(mant), BigInteger.ONE));
        DUE.same("mant and power" + call, told.compare(Model.value(n, w, a).bare()), 0);
        DUE.same("mant is odd" + call, mant & 1, 1);
    }

    private static void everyTwo(int n) {
        int w = n % 3;
        for (int a = 0; a < 1 << n; a++) {
            for (int b = 0; b < 1 << n; b++) {
                String call = "(" + n + "," + w + "," + a + "," + b + ")";
                Model.Frac x = Model.value(n, w, a);
                Model.Frac y = Model.value(n, w, b);
                int order = x == null || y == null ? Boolean.compare(x != null, y != null) : x.compare(y);
                DUE.same("order" + call, X.order(n, w, a, b), order);
                DUE.same("between" + call, X.between(n, w, a, b), between(n, w, x, y));
            }
        }
    }

    private static int between(int n, int w, Model.Frac x, Model.Frac y) {
        if (x == null || y == null) {
            return -1;
        }
        int count = 0;
        for (int c = 0; c < 1 << n; c++) {
            Model.Frac z = Model.value(n, w, c);
            count += z != null && z.compare(x) >= 0 && z.compare(y) <= 0 ? 1 : 0;
        }
        return count;
    }

    private static void wrongInputs() {
        int[][] none = {{2, 0, 0}, {13, 0, 0}, {4, -1, 0}, {4, 3, 0}, {4, 0, -1}, {4, 0, 16}, {12, 2, 4096},
            {-2147483648, 0, 0}, {2147483647, 0, 0}, {4, 0, 2147483647}, {32, 0, 0}, {35, 1, 1}};
        for (int[] p : none) {
            DUE.same("row", X.row(p[0], p[1], p[2], 9), NO_SUCH);
            DUE.same("order", X.order(p[0], p[1], p[2], 0), -2);
            DUE.same("order", X.order(p[0], p[1], 0, p[2]), -2);
            DUE.same("between", X.between(p[0], p[1], p[2], 0), -1);
            DUE.same("between", X.between(p[0], p[1], 0, p[2]), -1);
            DUE.same("written", X.written(p[0], p[1], p[2], -1), -1);
        }
        for (int what : new int[] {-1, 12, -2147483648, 2147483647}) {
            DUE.same("row what", X.row(4, 0, 3, what), NO_SUCH);
            DUE.same("written i", X.written(4, 0, 3, what == -1 ? 4 : what), -1);
        }
    }
}
