import java.math.BigDecimal;
import java.util.Arrays;

/** The edges of rows: each sentence of part II and of promises 10, 16, 17, 19, 23 that names one. */
public final class EdgeRowTest extends EdgeSizes {
    private static final int NO_SUCH = -100000;
    private static final long NO_LINE = -1000000000000000L;

    public static void main(String[] args) {
        everySize("A ROW of SIZE n: 0 .. 2 to the n less 1", EdgeRowTest::rowsOfASize);
        everySize("0 is 0; that of the highest bit alone is NIL (no number)", EdgeRowTest::noughtAndNil);
        everySize("The NEGATIVE of a ROW: 2 to the n less it (of 0 and NIL itself)", EdgeRowTest::negatives);
        everySize("1 to 7 are those of its NEGATIVE if it is below 0", EdgeRowTest::belowNought);
        everySize("RUN: bits alike, as many as there are; the bit behind the RUN (if there is one left) ends it", EdgeRowTest::runs);
        everySize("EXPONENT (those that are lacking at the end are noughts), all others the FRACTION, f bits", EdgeRowTest::lacking);
        everySize("MANT, POWER: the odd number and the power of 2 whose product its value is, without sign", EdgeRowTest::mants);
        everySize("10 the next greater by value, 11 the next less (-2: none)", EdgeRowTest::neighbours);
        everySize("LESS: ROWS of one SIZE by values, NIL ahead of all", EdgeRowTest::less);
        everySize("between: from that of a to that of b, both, too (0: b is LESS). NONE: NIL", EdgeRowTest::between);
        everySize("written: how many bytes (i NONE), byte i; NONE: no such ones", EdgeRowTest::bytes);
        everySize("NEAR by q: of all fractions with a whole number of 1 to q below the line", EdgeRowTest::near);
        wholes();
        written();
        nearOfSeveral();
        DUE.end();
    }

    private static void rowsOfASize(int n, int w) {
        int all = 1 << n;
        for (int a : new int[] {-1, all, all + 1, -all, 2 * all, -nil(n), Integer.MAX_VALUE, Integer.MIN_VALUE}) {
            DUE.same("negative" + at(n, w, a), X.row(n, w, a, 9), NO_SUCH);
            DUE.same("order" + at(n, w, a), X.order(n, w, 0, a), -2);
        }
        for (int a : new int[] {0, 1, nil(n) - 1, nil(n), nil(n) + 1, all - 1}) {
            DUE.same("negative" + at(n, w, a), X.row(n, w, a, 9), (all - a) % all);
            DUE.same("order" + at(n, w, a), X.order(n, w, a, a), 0);
        }
        for (int no : new int[] {-1, 3}) {
            DUE.same("WIDE" + no, X.row(n, no, 1, 9), NO_SUCH);
        }
    }

    private static void noughtAndNil(int n, int w) {
        DUE.same("sign of 0", X.row(n, w, 0, 0), 0);
        DUE.same("WHOLE of 0", X.row(n, w, 0, 8), 0);
        DUE.same("above 0", X.row(n, w, 0, 10), 1);
        DUE.same("below 0", X.row(n, w, 0, 11), (1 << n) - 1);
        for (int what = 1; what <= 7; what++) {
            DUE.same("of 0: what " + what, X.row(n, w, 0, what), NO_SUCH);
        }
        for (int what = 0; what <= 11; what++) {
            DUE.same("of NIL: what " + what, X.row(n, w, nil(n), what), what == 9 ? nil(n) : NO_SUCH);
        }
        for (int a : new int[] {0, 1, nil(n), nil(n) + 1}) {
            for (int what : new int[] {-1, 12, 13, Integer.MIN_VALUE, Integer.MAX_VALUE}) {
                DUE.same("what " + what, X.row(n, w, a, what), NO_SUCH);
            }
        }
    }

    private static void negatives(int n, int w) {
        DUE.same("of 0", X.row(n, w, 0, 9), 0);
        DUE.same("of NIL", X.row(n, w, nil(n), 9), nil(n));
        DUE.same("of the least above 0", X.row(n, w, 1, 9), (1 << n) - 1);
        DUE.same("of the greatest", X.row(n, w, nil(n) - 1, 9), nil(n) + 1);
        DUE.same("of the least", X.row(n, w, nil(n) + 1, 9), nil(n) - 1);
        for (int a = 1; a < nil(n); a++) {
            DUE.same("sign" + at(n, w, a), X.row(n, w, a, 0), 1);
            DUE.same("sign of its NEGATIVE" + at(n, w, a), X.row(n, w, (1 << n) - a, 0), -1);
        }
    }

    private static void belowNought(int n, int w) {
        for (int a = 1; a < nil(n); a++) {
            for (int what = 1; what <= 7; what++) {
                DUE.same("what " + what + " below 0" + at(n, w, a), X.row(n, w, (1 << n) - a, what), X.row(n, w, a, what));
            }
            DUE.same("WHOLE below 0" + at(n, w, a), X.row(n, w, (1 << n) - a, 8), -X.row(n, w, a, 8));
        }
    }

    private static void runs(int n, int w) {
        // All ones: no bit is left that could end it. One nought less: that nought ends it.
        int greatest = nil(n) - 1;
        DUE.same("RUN of all ones", X.row(n, w, greatest, 1), n - 1);
        DUE.same("its REGIME", X.row(n, w, greatest, 2), n - 2);
        DUE.same("RUN ended by the last bit", X.row(n, w, greatest - 1, 1), n - 2);
        DUE.same("its REGIME", X.row(n, w, greatest - 1, 2), n - 3);
        DUE.same("RUN of noughts ended by the last bit", X.row(n, w, 1, 1), n - 2);
        DUE.same("its REGIME", X.row(n, w, 1, 2), 2 - n);
        int one = nil(n) / 2;
        DUE.same("RUN of a single one", X.row(n, w, one, 1), 1);
        DUE.same("its REGIME", X.row(n, w, one, 2), 0);
        DUE.same("RUN of a single nought", X.row(n, w, one - 1, 1), 1);
        DUE.same("its REGIME", X.row(n, w, one - 1, 2), -1);
        for (int a : new int[] {greatest, greatest - 1, 1}) {
            for (int what = 3; what <= 5; what++) {
                DUE.same("nothing behind the RUN" + at(n, w, a), X.row(n, w, a, what), 0);
            }
        }
        for (int run = 1; run <= n - 2; run++) {
            // The RUN, what ends it, and ones behind.
            int noughts = (1 << (n - 1 - run)) - 1;
            DUE.same("RUN of noughts", X.row(n, w, noughts, 1), run);
            DUE.same("REGIME", X.row(n, w, noughts, 2), -run);
            int ones = greatest - (1 << (n - 2 - run));
            DUE.same("RUN of ones", X.row(n, w, ones, 1), run);
            DUE.same("REGIME", X.row(n, w, ones, 2), run - 1);
        }
    }

    private static void lacking(int n, int w) {
        for (int run = 1; run <= n - 2; run++) {
            int behind = n - 2 - run;
            int there = Math.min(w, behind);
            int exponent = ((1 << there) - 1) << (w - there);
            int f = Math.max(0, behind - w);
            for (int a : new int[] {(1 << (behind + 1)) - 1, nil(n) - 1 - (1 << behind)}) {
                DUE.same("EXPONENT" + at(n, w, a), X.row(n, w, a, 3), exponent);
                DUE.same("f" + at(n, w, a), X.row(n, w, a, 4), f);
                DUE.same("FRACTION" + at(n, w, a), X.row(n, w, a, 5), (1 << f) - 1);
            }
            for (int a : new int[] {1 << behind, nil(n) - (2 << behind)}) {
                DUE.same("EXPONENT 0" + at(n, w, a), X.row(n, w, a, 3), 0);
                DUE.same("f" + at(n, w, a), X.row(n, w, a, 4), f);
                DUE.same("FRACTION 0" + at(n, w, a), X.row(n, w, a, 5), 0);
            }
        }
    }

    private static void mants(int n, int w) {
        int top = (n - 2) << w;
        int[] rows = {nil(n) - 1, 1, nil(n) / 2};
        int[] powers = {top, -top, 0};
        for (int i = 0; i < rows.length; i++) {
            for (int a : new int[] {rows[i], (1 << n) - rows[i]}) {
                DUE.same("MANT" + at(n, w, a), X.row(n, w, a, 6), 1);
                DUE.same("POWER" + at(n, w, a), X.row(n, w, a, 7), powers[i]);
            }
        }
        for (int a = 1; a < nil(n); a++) {
            DUE.same("odd" + at(n, w, a), X.row(n, w, a, 6) & 1, 1);
        }
    }

    private static void neighbours(int n, int w) {
        int greatest = nil(n) - 1;
        int least = nil(n) + 1;
        DUE.same("above the greatest", X.row(n, w, greatest, 10), -2);
        DUE.same("below the greatest", X.row(n, w, greatest, 11), greatest - 1);
        DUE.same("below the least", X.row(n, w, least, 11), -2);
        DUE.same("above the least", X.row(n, w, least, 10), (least + 1) % (1 << n));
        DUE.same("above what is next below 0", X.row(n, w, (1 << n) - 1, 10), 0);
        DUE.same("below what is next above 0", X.row(n, w, 1, 11), 0);
        DUE.same("above NIL", X.row(n, w, nil(n), 10), NO_SUCH);
        DUE.same("below NIL", X.row(n, w, nil(n), 11), NO_SUCH);
        // From the least up to the greatest all ROWS are met but NIL.
        int a = least;
        int met = 1;
        for (; met < 1 << n && X.row(n, w, a, 10) != -2; met++) {
            a = X.row(n, w, a, 10);
        }
        DUE.same("met", met, (1 << n) - 1);
        DUE.same("up to", a, greatest);
    }

    private static void less(int n, int w) {
        int nil = nil(n);
        int[] up = {nil, nil + 1, (1 << n) - nil / 2, (1 << n) - 1, 0, 1, nil / 2, nil - 1};
        for (int i = 0; i < up.length; i++) {
            for (int j = 0; j < up.length; j++) {
                DUE.same("order of " + up[i] + " and " + up[j] + at(n, w, 0), X.order(n, w, up[i], up[j]), Integer.compare(i, j));
            }
        }
    }

    private static void between(int n, int w) {
        int nil = nil(n);
        int greatest = nil - 1;
        int least = nil + 1;
        DUE.same("all", X.between(n, w, least, greatest), (1 << n) - 1);
        DUE.same("none", X.between(n, w, greatest, least), 0);
        DUE.same("one", X.between(n, w, greatest, greatest), 1);
        DUE.same("one", X.between(n, w, least, least), 1);
        DUE.same("0 alone", X.between(n, w, 0, 0), 1);
        DUE.same("about 0", X.between(n, w, (1 << n) - 1, 1), 3);
        DUE.same("two", X.between(n, w, 0, 1), 2);
        DUE.same("b is LESS by one", X.between(n, w, 1, 0), 0);
        DUE.same("b is LESS by one", X.between(n, w, 0, (1 << n) - 1), 0);
        for (int a : new int[] {0, 1, nil, least, greatest}) {
            DUE.same("from NIL", X.between(n, w, nil, a), -1);
            DUE.same("to NIL", X.between(n, w, a, nil), -1);
        }
    }

    private static void bytes(int n, int w) {
        for (int a : new int[] {0, 1, nil(n) - 1, nil(n), nil(n) + 1, nil(n) / 2, nil(n) / 2 + 1, (1 << n) - 1}) {
            int length = X.written(n, w, a, -1);
            DUE.yes("some bytes", length >= 1);
            DUE.yes("byte 0", X.written(n, w, a, 0) >= '-');
            DUE.yes("the last byte", X.written(n, w, a, length - 1) >= '0');
            for (int i : new int[] {length, length + 1, 80, 1000, -2, -3, Integer.MIN_VALUE, Integer.MAX_VALUE}) {
                DUE.same("byte " + i + at(n, w, a), X.written(n, w, a, i), -1);
            }
            // What was written ahead is not left behind a shorter one.
            DUE.same("of 0", X.written(n, w, 0, 1), -1);
            DUE.same("byte " + (length - 1) + " again", X.written(n, w, a, length), -1);
        }
    }

    private static void near(int n, int w) {
        for (int a : new int[] {0, 1, nil(n) - 1, nil(n) + 1, (1 << n) - 1, nil(n) / 2}) {
            for (int q : new int[] {1, 2, 999, 1000}) {
                DUE.no("q " + q + at(n, w, a), X.near(n, w, a, q, 0) == NO_LINE);
                DUE.yes("below the line by " + q + at(n, w, a), X.near(n, w, a, q, 1) >= 1 && X.near(n, w, a, q, 1) <= q);
            }
            for (int q : new int[] {0, -1, 1001, 1002, Integer.MIN_VALUE, Integer.MAX_VALUE}) {
                DUE.same("q " + q, X.near(n, w, a, q, 0), NO_LINE);
                DUE.same("q " + q, X.near(n, w, a, q, 1), NO_LINE);
            }
            DUE.same("what -1", X.near(n, w, a, 1, -1), NO_LINE);
            DUE.same("what 2", X.near(n, w, a, 1, 2), NO_LINE);
        }
        for (int what = 0; what <= 1; what++) {
            DUE.same("of NIL", X.near(n, w, nil(n), 1000, what), NO_LINE);
        }
        DUE.same("0", X.near(n, w, 0, 1000, 0), 0);
        DUE.same("0 by 1", X.near(n, w, 0, 1000, 1), 1);
        DUE.same("the greatest", X.near(n, w, nil(n) - 1, 1000, 0), 1L << ((n - 2) << w));
        DUE.same("by 1", X.near(n, w, nil(n) - 1, 1000, 1), 1);
        DUE.same("the least", X.near(n, w, nil(n) + 1, 1000, 0), -(1L << ((n - 2) << w)));
        int below = 1 << Math.min(20, (n - 2) << w);
        boolean told = below <= 1000;
        // Half of the least above 0 and less of it: 0 by 1 is nearest.
        DUE.same("the least above 0", X.near(n, w, 1, 1000, 1), told ? below : below / 2 < 1000 ? 1000 : 1);
        DUE.same("its next less", X.near(n, w, 1, told ? below - 1 : 1000, 0), !told && below / 2 < 1000 || told && below > 2 ? 1 : 0);
    }

    private static void wholes() {
        DUE.sentence("WHOLE: the nearest whole number (of two alike near the even one)");
        String[] numbers = {"1/2", "3/2", "5/2", "7/2", "1/4", "3/4", "5/4", "7/4", "9/4"};
        int[] due = {0, 2, 2, 4, 0, 1, 1, 2, 2};
        for (int i = 0; i < numbers.length; i++) {
            String[] parts = numbers[i].split("/");
            for (int sign : new int[] {1, -1}) {
                int a = X.quotient(12, 1, sign * Integer.parseInt(parts[0]), Integer.parseInt(parts[1]));
                DUE.same("WHOLE of " + sign + " times " + numbers[i], X.row(12, 1, a, 8), sign * due[i]);
            }
        }
        DUE.same("the next above a half", X.row(12, 1, X.quotient(12, 1, 1, 2) + 1, 8), 1);
        DUE.same("the next below a half", X.row(12, 1, X.quotient(12, 1, 1, 2) - 1, 8), 0);
        DUE.same("the next below one and a half", X.row(12, 1, X.quotient(12, 1, 3, 2) - 1, 8), 1);
        DUE.same("the least above 0", X.row(12, 2, 1, 8), 0);
        DUE.sentence("WHOLE: beyond -2000000000 .. 2000000000 that bound");
        // 2 to the 30 is the last ROW within, 2 to the 31 the first beyond.
        int[] rows = {2042, 2043, 2044, 2045, 2046, 2047};
        for (int a : rows) {
            int power = X.row(12, 2, a, 7);
            int whole = power < 31 ? 1 << power : 2000000000;
            DUE.same("WHOLE of 2 to the " + power, X.row(12, 2, a, 8), whole);
            DUE.same("WHOLE of less it", X.row(12, 2, 4096 - a, 8), -whole);
        }
        DUE.same("within", X.row(12, 2, X.row(12, 2, 2047, 11), 7), 36);
    }

    private static void written() {
        DUE.sentence("WRITTEN: digits (0 ahead of the point if it is below 1; no other ahead), and, if it is not whole, \".\"; of NIL \"nil\"");
        String[] texts = {"0", "1", "-1", "0.5", "-0.5", "10", "100", "1.5", "-2.25", "96", "0.0625", "12.5", "99", "97"};
        for (String text : texts) {
            BigDecimal all = new BigDecimal(text).multiply(BigDecimal.valueOf(10000));
            int a = X.quotient(12, 2, all.intValueExact(), 10000);
            DUE.yes(text, Due.written(X, 12, 2, a).equals(text));
        }
        for (int n = 3; n <= 12; n++) {
            DUE.yes("nil", Due.written(X, n, n % 3, nil(n)).equals("nil"));
            DUE.same("byte behind nil", X.written(n, n % 3, nil(n), 3), -1);
        }
        DUE.yes("the greatest", Due.written(X, 12, 2, 2047).equals("1099511627776"));
        DUE.yes("the least", Due.written(X, 12, 2, 2049).equals("-1099511627776"));
        String tiny = "0.0000000000009094947017729282379150390625";
        DUE.yes("the least above 0", Due.written(X, 12, 2, 1).equals(tiny));
        DUE.yes("the next below 0", Due.written(X, 12, 2, 4095).equals("-" + tiny));
        DUE.same("its bytes", X.written(12, 2, 4095, -1), 43);
    }

    private static void nearOfSeveral() {
        DUE.sentence("NEAR: of several the least below the line, of like ones there the less above it");
        // Each: the value (above and below its line), q, and the fraction that is due.
        int[][] rows = {{1, 2, 1, 0, 1}, {3, 2, 1, 1, 1}, {-1, 2, 1, -1, 1}, {-3, 2, 1, -2, 1}, {5, 2, 1, 2, 1}, {1, 2, 2, 1, 2},
            {1, 2, 1000, 1, 2}, {1, 1, 1000, 1, 1}, {-4, 1, 1000, -4, 1}, {3, 4, 3, 2, 3}, {3, 4, 2, 1, 1}, {1, 4, 3, 1, 3},
            {1, 4, 2, 0, 1}, {-1, 4, 2, 0, 1}, {-3, 4, 2, -1, 1}, {5, 4, 2, 1, 1}, {-5, 4, 2, -1, 1}, {3, 8, 7, 2, 5}, {1, 8, 7, 1, 7},
            {1, 8, 4, 0, 1}, {1, 8, 5, 1, 5}, {1, 16, 7, 0, 1}, {1, 16, 8, 0, 1}, {1, 16, 9, 1, 9}, {-1, 16, 8, 0, 1}};
        for (int[] one : rows) {
            int a = X.quotient(12, 2, one[0], one[1]);
            DUE.same("above " + Arrays.toString(one), X.near(12, 2, a, one[2], 0), one[3]);
            DUE.same("below " + Arrays.toString(one), X.near(12, 2, a, one[2], 1), one[4]);
        }
    }
}
