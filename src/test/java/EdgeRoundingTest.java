/** The edges of what is rounded: each sentence of part II and of promises 11 to 15, 18, 20, 22, 25 that names one. */
public final class EdgeRoundingTest extends EdgeSizes {
    public static void main(String[] args) {
        everySize("ROUNDED: v is the value of a ROW: that one", EdgeRoundingTest::ownRows);
        everySize("ROUNDED: let m be the value of the ROW twice p and 1: v less than m: p, more: p and 1; as much: that of both that is even",
            EdgeRoundingTest::halfway);
        everySize("ROUNDED: v is more than the greatest value: the greatest ROW that is no NIL", EdgeRoundingTest::beyond);
        everySize("ROUNDED: v is less than the least value above 0: 1", EdgeRoundingTest::belowTheLeast);
        everySize("Of v below 0 the NEGATIVE of what comes of less v; of 0: 0", EdgeRoundingTest::signs);
        everySize("NIL comes of NIL", EdgeRoundingTest::ofNil);
        everySize("NIL comes of a quotient by 0", EdgeRoundingTest::byNought);
        everySize("NIL comes of a root of what is below 0", EdgeRoundingTest::roots);
        everySize("off: 0 not at all, 1 the ROW's value is more, -1 less; -2: NIL came of it", EdgeRoundingTest::off);
        everySize("quotient: of a by b (-1000000 .. 1000000 each; NIL with b 0)", EdgeRoundingTest::quotients);
        everySize("FUSED of a, b, c: ROUNDED of a times b, and c, without loss between", EdgeRoundingTest::fused);
        everySize("STEPS: until NIL comes or a ROW that was there ahead (x, too)", EdgeRoundingTest::steps);
        everySize("RAISED k times (0 .. 50): 1, k times the ROUNDED product of it and a", EdgeRoundingTest::raised);
        everySize("pairs: -2: SIZE above 6. NONE: no such ones", EdgeRoundingTest::sizeOfPairs);
        longSteps();
        smallPairs();
        byHand();
        DUE.end();
    }

    // ---- ROUNDED

    private static void ownRows(int n, int w) {
        for (int a = 0; a < 1 << n; a++) {
            DUE.same("turned to its own" + at(n, w, a), X.turned(n, w, a, n, w), a);
            // Its value stands in each greater SIZE, too: as many noughts behind as it is greater.
            for (int m = n + 1; m <= 12; m++) {
                DUE.same("turned to greater" + at(n, w, a), X.turned(n, w, a, m, w), a << (m - n));
                DUE.same("and back" + at(n, w, a), X.turned(m, w, a << (m - n), n, w), a);
            }
        }
    }

    /** The ROWS of the next SIZES are the values that lie between: twice p and 1 of the next is m itself. */
    private static void halfway(int n, int w) {
        for (int p = 1; p < nil(n) - 1; p++) {
            int even = p + (p & 1);
            both(n, w, n + 1, 2 * p + 1, even);
            for (int more = 2; n + more <= 12; more++) {
                int m = n + more;
                int half = (2 * p + 1) << (more - 1);
                both(n, w, m, half, even);
                both(n, w, m, half - 1, p);
                both(n, w, m, half + 1, p + 1);
                both(n, w, m, (p << more) + 1, p);
                both(n, w, m, ((p + 1) << more) - 1, p + 1);
            }
        }
    }

    private static void both(int n, int w, int m, int a, int due) {
        if (m <= 12) {
            DUE.same("turned to " + n + at(m, w, a), X.turned(m, w, a, n, w), due);
            DUE.same("turned to " + n + " below 0" + at(m, w, a), X.turned(m, w, negative(m, a), n, w), negative(n, due));
        }
    }

    private static void beyond(int n, int w) {
        int greatest = nil(n) - 1;
        for (int m = n + 1; m <= 12; m++) {
            both(n, w, m, nil(m) - 1, greatest);
            both(n, w, m, (greatest << (m - n)) + 1, greatest);
        }
        DUE.same("twice", X.both(n, w, greatest, greatest, 0), greatest);
        DUE.same("squared", X.both(n, w, greatest, greatest, 2), greatest);
        DUE.same("and the least above 0", X.both(n, w, greatest, 1, 0), greatest);
        DUE.same("by the least above 0", X.both(n, w, greatest, 1, 3), greatest);
        DUE.same("by what is next below 0", X.both(n, w, greatest, negative(n, 1), 3), nil(n) + 1);
        DUE.same("less it, twice", X.both(n, w, nil(n) + 1, greatest, 1), nil(n) + 1);
    }

    private static void belowTheLeast(int n, int w) {
        for (int m = n + 1; m <= 12; m++) {
            both(n, w, m, 1, 1);
            both(n, w, m, (1 << (m - n)) - 1, 1);
        }
        DUE.same("squared", X.both(n, w, 1, 1, 2), 1);
        DUE.same("by the greatest", X.both(n, w, 1, nil(n) - 1, 3), 1);
        DUE.same("by the least", X.both(n, w, 1, nil(n) + 1, 3), negative(n, 1));
        DUE.same("times less it", X.both(n, w, 1, negative(n, 1), 2), negative(n, 1));
        DUE.same("1 by 1000000", X.quotient(n, w, 1, 1000000), X.quotient(n, w, -1, -1000000));
        DUE.no("no 0", X.quotient(n, w, 1, 1000000) == 0);
    }

    private static void signs(int n, int w) {
        DUE.same("0 and 0", X.both(n, w, 0, 0, 0), 0);
        DUE.same("0 less 0", X.both(n, w, 0, 0, 1), 0);
        DUE.same("root of 0", X.root(n, w, 0), 0);
        for (int a = 1; a < nil(n); a++) {
            int less = negative(n, a);
            DUE.same("and its NEGATIVE" + at(n, w, a), X.both(n, w, a, less, 0), 0);
            DUE.same("less itself" + at(n, w, a), X.both(n, w, less, less, 1), 0);
            DUE.same("times 0" + at(n, w, a), X.both(n, w, less, 0, 2), 0);
            DUE.same("0 by it" + at(n, w, a), X.both(n, w, 0, less, 3), 0);
            int b = nil(n) - a;
            for (int what = 0; what <= 3; what++) {
                boolean ofBoth = what <= 1;
                int turned = X.both(n, w, less, ofBoth ? negative(n, b) : b, what);
                DUE.same("below 0: what " + what + at(n, w, a), turned, negative(n, X.both(n, w, a, b, what)));
            }
        }
    }

    // ---- NIL

    private static void ofNil(int n, int w) {
        int nil = nil(n);
        for (int a : new int[] {0, 1, nil - 1, nil, nil + 1, (1 << n) - 1, nil / 2}) {
            for (int what = 0; what <= 3; what++) {
                DUE.same("NIL ahead: what " + what, X.both(n, w, nil, a, what), nil);
                DUE.same("NIL behind: what " + what, X.both(n, w, a, nil, what), nil);
                DUE.same("off of NIL ahead: what " + what, X.off(n, w, nil, a, what), -2);
                DUE.same("off of NIL behind: what " + what, X.off(n, w, a, nil, what), -2);
            }
            DUE.same("fused", X.fused(n, w, nil, a, a), nil);
            DUE.same("fused", X.fused(n, w, a, nil, a), nil);
            DUE.same("fused", X.fused(n, w, a, a, nil), nil);
            DUE.same("steps", X.steps(n, w, nil, a, 1), nil);
        }
        DUE.same("root", X.root(n, w, nil), nil);
        for (int m = 3; m <= 12; m++) {
            DUE.same("turned", X.turned(n, w, nil, m, m % 3), nil(m));
        }
    }

    private static void byNought(int n, int w) {
        for (int a : new int[] {0, 1, nil(n) - 1, nil(n), nil(n) + 1, (1 << n) - 1}) {
            DUE.same("by 0" + at(n, w, a), X.both(n, w, a, 0, 3), nil(n));
            DUE.same("off by 0" + at(n, w, a), X.off(n, w, a, 0, 3), -2);
        }
        for (int a : new int[] {0, 1, -1, 1000000, -1000000}) {
            DUE.same("quotient by 0 of " + a, X.quotient(n, w, a, 0), nil(n));
        }
        DUE.same("0 by 1", X.both(n, w, 0, nil(n) / 2, 3), 0);
        DUE.same("off", X.off(n, w, 0, nil(n) / 2, 3), 0);
    }

    private static void roots(int n, int w) {
        for (int a = nil(n); a < 1 << n; a++) {
            DUE.same("root" + at(n, w, a), X.root(n, w, a), nil(n));
        }
        DUE.same("root of 0", X.root(n, w, 0), 0);
        DUE.same("root of 1", X.root(n, w, nil(n) / 2), nil(n) / 2);
        for (int a = 1; a < nil(n); a++) {
            int root = X.root(n, w, a);
            DUE.yes("above 0" + at(n, w, a), root > 0 && root < nil(n));
            DUE.yes("nearer to 1" + at(n, w, a), a >= nil(n) / 2 ? root <= a && root >= nil(n) / 2 : root >= a && root <= nil(n) / 2);
            int square = X.both(n, w, a, a, 2);
            if (X.off(n, w, a, a, 2) == 0) {
                DUE.same("root of a square" + at(n, w, a), X.root(n, w, square), a);
            }
        }
    }

    // ---- the single calls

    private static void off(int n, int w) {
        int greatest = nil(n) - 1;
        int one = nil(n) / 2;
        DUE.same("the greatest", X.off(n, w, greatest, 0, 0), 0);
        DUE.same("beyond the greatest", X.off(n, w, greatest, 1, 0), -1);
        DUE.same("beyond the least", X.off(n, w, nil(n) + 1, 1, 1), 1);
        DUE.same("the least above 0", X.off(n, w, 1, one, 2), 0);
        DUE.same("below the least above 0", X.off(n, w, 1, 1, 2), 1);
        DUE.same("above what is next below 0", X.off(n, w, 1, negative(n, 1), 2), -1);
        DUE.same("0", X.off(n, w, 1, 1, 1), 0);
        DUE.same("0 times", X.off(n, w, 0, greatest, 2), 0);
        DUE.same("NIL", X.off(n, w, nil(n), one, 0), -2);
        if (n <= 6) {
            for (int a = 0; a < 1 << n; a++) {
                for (int b = 0; b < 1 << n; b++) {
                    offBothWays(n, w, a, b);
                }
            }
        }
    }

    /** What is not rounded goes back; what is, by its sign. */
    private static void offBothWays(int n, int w, int a, int b) {
        int sum = X.both(n, w, a, b, 0);
        int off = X.off(n, w, a, b, 0);
        if (a != nil(n) && b != nil(n)) {
            Model.Frac all = Model.value(n, w, a).plus(Model.value(n, w, b));
            DUE.same("off of the sum" + at(n, w, a) + b, off, Model.value(n, w, sum).compare(all));
            DUE.same("off turned" + at(n, w, a) + b, X.off(n, w, negative(n, a), negative(n, b), 0), -off);
        } else {
            DUE.same("off of NIL" + at(n, w, a) + b, off, -2);
        }
    }

    private static void quotients(int n, int w) {
        int one = nil(n) / 2;
        for (int far : new int[] {1000000, -1000000, 999999, -999999, 1, -1}) {
            DUE.same("by itself " + far, X.quotient(n, w, far, far), one);
            DUE.same("by less itself " + far, X.quotient(n, w, far, -far), negative(n, one));
            DUE.same("0 by " + far, X.quotient(n, w, 0, far), 0);
            DUE.same("by 0 " + far, X.quotient(n, w, far, 0), nil(n));
        }
        for (int far : new int[] {1000001, -1000001, Integer.MAX_VALUE, Integer.MIN_VALUE, Integer.MIN_VALUE + 1}) {
            DUE.same("a " + far, X.quotient(n, w, far, 1), -1);
            DUE.same("b " + far, X.quotient(n, w, 1, far), -1);
            DUE.same("b " + far + " of 0", X.quotient(n, w, 0, far), -1);
            DUE.same("a " + far + " by 0", X.quotient(n, w, far, 0), -1);
            DUE.same("both " + far, X.quotient(n, w, far, far), -1);
        }
    }

    private static void fused(int n, int w) {
        int one = nil(n) / 2;
        int greatest = nil(n) - 1;
        DUE.same("all 0", X.fused(n, w, 0, 0, 0), 0);
        DUE.same("c alone", X.fused(n, w, 0, greatest, 1), 1);
        DUE.same("the product alone", X.fused(n, w, greatest, one, 0), greatest);
        DUE.same("what is left of the least squared", X.fused(n, w, 1, 1, 0), 1);
        DUE.same("all goes", X.fused(n, w, one, greatest, negative(n, greatest)), 0);
        DUE.same("beyond", X.fused(n, w, greatest, greatest, negative(n, greatest)), greatest);
        DUE.same("below 0", X.fused(n, w, greatest, negative(n, greatest), greatest), nil(n) + 1);
        int least = negative(n, 1);
        DUE.same("rounded between, all is lost", X.both(n, w, X.both(n, w, 1, 1, 2), least, 0), 0);
        DUE.same("without loss it is below 0", X.fused(n, w, 1, 1, least), least);
    }

    private static void steps(int n, int w) {
        int one = nil(n) / 2;
        int nil = nil(n);
        int[][] due = {
            // a, x, how many, the last, how many go round
            {one, one, 1, one, 1}, {one, 0, 1, nil, 0}, {0, 0, 1, nil, 0}, {nil, one, 1, nil, 0}, {one, nil, 1, nil, 0}, {nil, nil, 1, nil, 0}};
        for (int[] one6 : due) {
            for (int what = 0; what <= 2; what++) {
                DUE.same("steps from " + one6[1] + " to a root of " + one6[0] + " what " + what + at(n, w, 0),
                    X.steps(n, w, one6[0], one6[1], what), one6[2 + what]);
            }
        }
        DUE.same("what 3", X.steps(n, w, one, one, 3), -1);
        DUE.same("what -1", X.steps(n, w, nil, one, -1), -1);
        for (int a = 0; a < 1 << n; a += Math.max(1, (1 << n) / 32 - 1)) {
            stepByStep(n, w, one, a);
            stepByStep(n, w, a, one);
            stepByStep(n, w, negative(n, one), a);
        }
    }

    /** The same by both() and turned(), with all ROWS that came. */
    private static void stepByStep(int n, int w, int a, int x) {
        int[] came = new int[5000];
        int count = 0;
        int last = x;
        int ahead;
        do {
            came[count++] = last;
            int sum = X.both(n, w, last, X.both(n, w, a, last, 3), 0);
            last = sum == nil(n) ? sum : Model.rounded(n, w, Model.value(n, w, sum).times(Model.Frac.of(1, 2)));
            ahead = 0;
            while (ahead < count && came[ahead] != last) {
                ahead++;
            }
        } while (last != nil(n) && ahead == count);
        String call = "steps from " + x + " to a root of " + a + at(n, w, 0) + " what ";
        DUE.same(call + 0, X.steps(n, w, a, x, 0), count);
        DUE.same(call + 1, X.steps(n, w, a, x, 1), last);
        DUE.same(call + 2, X.steps(n, w, a, x, 2), last == nil(n) ? 0 : count - ahead);
    }

    private static void raised(int n, int w) {
        int one = nil(n) / 2;
        int nil = nil(n);
        int greatest = nil - 1;
        for (int a : new int[] {0, 1, one, greatest, nil, nil + 1, negative(n, one), negative(n, 1)}) {
            DUE.same("0 times" + at(n, w, a), X.raised(n, w, a, 0), one);
            DUE.same("once" + at(n, w, a), X.raised(n, w, a, 1), a);
            for (int k : new int[] {-1, 51, 52, 100, Integer.MIN_VALUE, Integer.MAX_VALUE}) {
                DUE.same("k " + k + at(n, w, a), X.raised(n, w, a, k), -1);
            }
        }
        int[][] due = {{0, 0, 0}, {one, one, one}, {negative(n, one), one, negative(n, one)}, {greatest, greatest, greatest},
            {nil, nil, nil}, {nil + 1, greatest, nil + 1}, {1, 1, 1}, {negative(n, 1), 1, negative(n, 1)}};
        for (int[] row : due) {
            DUE.same("50 times" + at(n, w, row[0]), X.raised(n, w, row[0], 50), row[1]);
            DUE.same("49 times" + at(n, w, row[0]), X.raised(n, w, row[0], 49), row[2]);
        }
    }

    private static void sizeOfPairs(int n, int w) {
        for (int what = 0; what <= 2; what++) {
            int pairs = X.pairs(n, w, what);
            DUE.yes("SIZE " + n + " what " + what, n > 6 ? pairs == -2 : pairs > 0);
        }
        for (int what : new int[] {-1, 3, 4, Integer.MIN_VALUE, Integer.MAX_VALUE}) {
            DUE.same("SIZE " + n + " what " + what, X.pairs(n, w, what), -1);
        }
        for (int wide : new int[] {-1, 3, Integer.MIN_VALUE, Integer.MAX_VALUE}) {
            DUE.same("SIZE " + n + " WIDE " + wide, X.pairs(n, wide, 0), -1);
        }
        for (int size : new int[] {2, 13, 0, -1, Integer.MIN_VALUE, Integer.MAX_VALUE}) {
            DUE.same("SIZE " + size, X.pairs(size, w, 0), -1);
        }
    }

    private static void longSteps() {
        DUE.sentence("steps: what 2 how many unlike ones go round then (0: NIL came)");
        int[] seen = new int[40];
        for (int n = 3; n <= 12; n++) {
            for (int a = 1; a < 1 << n; a += n < 9 ? 1 : 37) {
                int x = (a * 7 + 3) % (1 << n);
                int round = X.steps(n, 1, a, x, 2);
                seen[Math.min(round, 39)]++;
                stepByStep(n, 1, a, x);
            }
        }
        DUE.yes("some came to NIL, some to one ROW, some go round by more", seen[0] > 0 && seen[1] > 0 && seen[2] > 0);
    }

    /** SIZE 3, WIDE 0 has 0, 1/2, 1, 2 and these below 0: what is exact can be counted by hand. */
    private static void smallPairs() {
        DUE.sentence("PAIRS: of all pairs of ROWS that are not NIL (a, b and b, a are two; a, a one); a quotient (b not 0)");
        double[] values = {-2, -1, -0.5, 0, 0.5, 1, 2};
        int[] due = new int[3];
        for (double a : values) {
            for (double b : values) {
                due[0] += isOne(values, a + b);
                due[1] += isOne(values, a * b);
                due[2] += b == 0 ? 0 : isOne(values, a / b);
            }
        }
        DUE.same("sums: 13 with 0, 4 of like signs, 14 of unlike ones", due[0], 31);
        for (int what = 0; what <= 2; what++) {
            DUE.same("pairs(3,0," + what + ")", X.pairs(3, 0, what), due[what]);
            DUE.same("pairs(3,0," + what + ") again", X.pairs(3, 0, what), due[what]);
        }
    }

    private static int isOne(double[] values, double asked) {
        for (double value : values) {
            if (value == asked) {
                return 1;
            }
        }
        return 0;
    }

    private static void byHand() {
        DUE.sentence("ROUNDED of a root");
        DUE.same("root of 4", X.root(12, 2, X.quotient(12, 2, 4, 1)), X.quotient(12, 2, 2, 1));
        int great = X.root(12, 2, 2047);
        DUE.same("root of 2 to the 40: MANT", X.row(12, 2, great, 6), 1);
        DUE.same("root of 2 to the 40: POWER", X.row(12, 2, great, 7), 20);
        DUE.same("root of 2 to the -40", X.root(12, 2, 1), X.both(12, 2, 1024, great, 3));
        DUE.same("root of 2 to the 10", X.root(12, 0, 2047), X.quotient(12, 0, 32, 1));
        DUE.same("root of 2 to the -10", X.root(12, 0, 1), X.quotient(12, 0, 1, 32));
        DUE.sentence("turned: ROUNDED to SIZE m, WIDE u of a ROW (NIL of NIL)");
        DUE.same("the greatest to less", X.turned(12, 2, 2047, 3, 0), 3);
        DUE.same("the least to less", X.turned(12, 2, 2049, 3, 0), 5);
        DUE.same("the least above 0 to less", X.turned(12, 2, 1, 3, 0), 1);
        DUE.same("the greatest of the least SIZE", X.turned(3, 0, 3, 12, 2), X.quotient(12, 2, 2, 1));
        DUE.same("halfway of 1 and 2 by 3, 0", X.turned(12, 2, X.quotient(12, 2, 3, 2), 3, 0), 2);
        DUE.same("NIL", X.turned(12, 2, 2048, 3, 0), 4);
    }
}
