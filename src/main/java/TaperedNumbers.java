import java.util.Arrays;

/**
 * Numbers that taper: rows of bits, each with an exact value; what is worked out of them is rounded
 * to the nearest row. Holds a tape, a text's names, a wide store, what can be undone and three slots.
 */
public final class TaperedNumbers {
    public static final int NONE = -1;

    private static final int LACKING = -2;
    private static final int NO_SUCH = -100000;
    private static final long NO_SUCH_LINE = -1000000000000000L;
    private static final int NO_POWER = -1000;

    private static final int TAPE_ROOM = 2000;
    private static final int FEED_BYTES = 20;
    private static final int TOKEN_ROOM = 400;
    private static final int NAME_ROOM = 8;
    private static final int OPEN_ROOM = 8;
    private static final int PAST_ROOM = 40;
    private static final int SLOT_ROOM = 3;
    private static final int ROW_ROOM = 4096;
    private static final int SIGN_ROOM = 80;

    private static final int PART_BOUND = 1000000;
    private static final int WHOLE_BOUND = 2000000000;
    private static final int BIT_BOUND = 100;
    private static final int TIMES_BOUND = 50;
    private static final int LINE_BOUND = 1000;
    private static final int PAIRS_SIZE = 6;
    private static final int PAIRS_KINDS = 36;

    private static final int SUM = 0;
    private static final int DIFFERENCE = 1;
    private static final int PRODUCT = 2;
    private static final int QUOTIENT = 3;
    private static final int PUT_INT = 4;
    private static final int PUT_NAME = 5;
    private static final int NEGATE = 6;
    private static final int TAKE_ROOT = 7;
    private static final int ADD_PRODUCTS = 8;
    private static final int END_LINE = 9;

    private static final int SYNTAX = 1;
    private static final int ROOM = 2;
    private static final int TWICE = 3;
    private static final int NAME = 4;
    private static final int WRONG = 5;

    private final Tape tape;
    private final Reader reader;
    private final Worker worker;
    private final Rounder rounder;
    private final Decimals decimals;
    private final Real real;
    private final Real other;
    private final State now;
    private final State[] past;
    private final Slot[] slots;
    private final int[] names;
    private final int[] cameAt;
    private final int[] exactPairs;
    private Text text;
    private int oldest;
    private int undoable;
    private int faultPlace;

    public TaperedNumbers() {
        reader = new Reader();
        tape = reader.tape;
        worker = new Worker();
        rounder = worker.rounder;
        decimals = new Decimals();
        real = new Real();
        other = new Real();
        now = new State();
        past = new State[PAST_ROOM];
        for (int i = 0; i < past.length; i++) {
            past[i] = new State();
        }
        slots = new Slot[SLOT_ROOM];
        for (int i = 0; i < slots.length; i++) {
            slots[i] = new Slot();
        }
        names = new int[NAME_ROOM];
        cameAt = new int[ROW_ROOM];
        exactPairs = new int[PAIRS_KINDS];
        Arrays.fill(exactPairs, NONE);
        text = new Text();
        faultPlace = NONE;
    }

    // ---- the tape and the text

    public int feed(int a, int b, int c, int d, int e) {
        if (tape.length + FEED_BYTES > TAPE_ROOM) {
            return NONE;
        }
        tape.putFour(a);
        tape.putFour(b);
        tape.putFour(c);
        tape.putFour(d);
        tape.putFour(e);
        return tape.length;
    }

    public int back(int n) {
        if (n < 0 || n > tape.length) {
            return NONE;
        }
        tape.length -= n;
        return tape.length;
    }

    public int read() {
        int fault = reader.check();
        faultPlace = fault == 0 ? NONE : reader.faultAt;
        tape.length = 0;
        if (fault == 0) {
            begin();
            worker.workOut(text, now.size, now.wide, names);
        }
        return fault;
    }

    /** The text just read takes the place of the one ahead. */
    private void begin() {
        Text former = text;
        text = reader.text;
        reader.text = former;
        now.size = text.size;
        now.wide = text.wide;
        now.sum.wipe();
        undoable = 0;
        for (int i = 0; i < slots.length; i++) {
            slots[i].full = false;
        }
    }

    public int place() {
        return faultPlace;
    }

    // ---- what is done by hand

    public boolean resize(int n, int w) {
        if (!Row.isSize(n, w) || n == now.size && w == now.wide) {
            return false;
        }
        remember();
        now.size = n;
        now.wide = w;
        worker.workOut(text, now.size, now.wide, names);
        return true;
    }

    public boolean store(int a, int b, boolean away) {
        if (!Row.isRow(now.size, now.wide, a) || !Row.isRow(now.size, now.wide, b)) {
            return false;
        }
        remember();
        real.takeRow(now.size, now.wide, a);
        other.takeRow(now.size, now.wide, b);
        now.sum.addProduct(real, other, away);
        return true;
    }

    public boolean clear() {
        if (!now.sum.nil && now.sum.sign() == 0) {
            return false;
        }
        remember();
        now.sum.wipe();
        return true;
    }

    public boolean undo() {
        if (undoable <= 0) {
            return false;
        }
        undoable--;
        goBackTo(past[Math.floorMod(oldest + undoable, PAST_ROOM)]);
        return true;
    }

    /** The past is a ring: what is done when it is full takes the place of the oldest. */
    private void remember() {
        if (undoable >= PAST_ROOM) {
            oldest = Math.floorMod(oldest + 1, PAST_ROOM);
            undoable = PAST_ROOM - 1;
        }
        past[Math.floorMod(oldest + undoable, PAST_ROOM)].take(now);
        undoable++;
    }

    /** The text is the same for all that is remembered: only another size makes its names others. */
    private void goBackTo(State state) {
        boolean resized = state.size != now.size || state.wide != now.wide;
        now.take(state);
        if (resized) {
            worker.workOut(text, now.size, now.wide, names);
        }
    }

    public boolean hold(int slot) {
        if (slot < 0 || slot >= slots.length) {
            return false;
        }
        slots[slot].state.take(now);
        slots[slot].tape.take(tape);
        slots[slot].full = true;
        return true;
    }

    public boolean restore(int slot) {
        if (slot < 0 || slot >= slots.length || !slots[slot].full) {
            return false;
        }
        tape.take(slots[slot].tape);
        goBackTo(slots[slot].state);
        undoable = 0;
        return true;
    }

    // ---- one row

    public int row(int n, int w, int a, int what) {
        if (!Row.isRow(n, w, a) || what < 0 || what > 11) {
            return NO_SUCH;
        }
        if (what == 9) {
            return Row.negative(n, a);
        }
        if (Row.isNil(n, a)) {
            return NO_SUCH;
        }
        switch (what) {
            case 0:
                return Integer.signum(Row.ordered(n, a));
            case 8:
                real.takeRow(n, w, a);
                return real.whole();
            case 10:
                return a == Row.greatest(n) ? LACKING : Row.after(n, a);
            case 11:
                return a == Row.negative(n, Row.greatest(n)) ? LACKING : Row.ahead(n, a);
            default:
                return a == 0 ? NO_SUCH : partOf(n, w, a, what);
        }
    }

    /** A part of a row that is neither 0 nor NIL. */
    private int partOf(int n, int w, int a, int what) {
        real.takeRow(n, w, a);
        switch (what) {
            case 1:
                return real.parts.run;
            case 2:
                return real.parts.regime;
            case 3:
                return real.parts.exponent;
            case 4:
                return real.parts.fractionBits;
            case 5:
                return real.parts.fraction;
            case 6:
                return (int) real.mant;
            default:
                return real.power;
        }
    }

    public int order(int n, int w, int a, int b) {
        if (!Row.areRows(n, w, a, b)) {
            return LACKING;
        }
        return Integer.compare(Row.ordered(n, a), Row.ordered(n, b));
    }

    public int between(int n, int w, int a, int b) {
        if (!Row.areRows(n, w, a, b) || Row.isNil(n, a) || Row.isNil(n, b)) {
            return NONE;
        }
        return Math.max(0, Row.ordered(n, b) - Row.ordered(n, a) + 1);
    }

    public int written(int n, int w, int a, int i) {
        if (!Row.isRow(n, w, a)) {
            return NONE;
        }
        real.takeRow(n, w, a);
        decimals.write(real);
        return i == NONE ? decimals.length : decimals.signAt(i);
    }

    public long near(int n, int w, int a, int q, int what) {
        if (!Row.isRow(n, w, a) || Row.isNil(n, a) || q < 1 || q > LINE_BOUND || what < 0 || what > 1) {
            return NO_SUCH_LINE;
        }
        real.takeRow(n, w, a);
        int below = real.nearestBelow(q);
        return what == 1 ? below : real.nearestAbove(below);
    }

    // ---- what is rounded

    public int both(int n, int w, int a, int b, int what) {
        if (!Row.areRows(n, w, a, b) || what < SUM || what > QUOTIENT) {
            return NONE;
        }
        return rounder.ofTwo(n, w, a, b, what);
    }

    public int off(int n, int w, int a, int b, int what) {
        if (!Row.areRows(n, w, a, b) || what < SUM || what > QUOTIENT) {
            return NONE;
        }
        rounder.ofTwo(n, w, a, b, what);
        return rounder.lean;
    }

    public int root(int n, int w, int a) {
        if (!Row.isRow(n, w, a)) {
            return NONE;
        }
        return rounder.ofRoot(n, w, a);
    }

    public int turned(int n, int w, int a, int m, int u) {
        if (!Row.isRow(n, w, a) || !Row.isSize(m, u)) {
            return NONE;
        }
        real.takeRow(n, w, a);
        return rounder.rounded(m, u, real);
    }

    public int quotient(int n, int w, int a, int b) {
        if (!Row.isSize(n, w) || !isPart(a) || !isPart(b)) {
            return NONE;
        }
        return rounder.ofQuotient(n, w, a, b);
    }

    private static boolean isPart(int a) {
        return a >= -PART_BOUND && a <= PART_BOUND;
    }

    public int fused(int n, int w, int a, int b, int c) {
        if (!Row.areRows(n, w, a, b) || !Row.isRow(n, w, c)) {
            return NONE;
        }
        return rounder.ofFused(n, w, a, b, c);
    }

    public int steps(int n, int w, int a, int x, int what) {
        if (!Row.areRows(n, w, a, x) || what < 0 || what > 2) {
            return NONE;
        }
        Arrays.fill(cameAt, NONE);
        int last = x;
        int count = 0;
        int first = NONE;
        boolean nilCame = false;
        // When every row has come, the next one was there ahead.
        while (count <= ROW_ROOM && first == NONE && !nilCame && last >= 0 && last < cameAt.length) {
            cameAt[last] = count;
            last = stepFrom(n, w, a, last);
            count++;
            nilCame = Row.isNil(n, last);
            first = last < 0 || last >= cameAt.length ? NONE : cameAt[last];
        }
        if (what == 0) {
            return count;
        }
        if (what == 1) {
            return last;
        }
        return nilCame ? 0 : count - first;
    }

    private int stepFrom(int n, int w, int a, int x) {
        int by = rounder.ofTwo(n, w, a, x, QUOTIENT);
        return rounder.ofHalf(n, w, rounder.ofTwo(n, w, x, by, SUM));
    }

    public int raised(int n, int w, int a, int k) {
        if (!Row.isRow(n, w, a) || k < 0 || k > TIMES_BOUND) {
            return NONE;
        }
        int result = Row.one(n);
        for (int i = 0; i < k; i++) {
            result = rounder.ofTwo(n, w, result, a, PRODUCT);
        }
        return result;
    }

    public int pairs(int n, int w, int what) {
        if (!Row.isSize(n, w) || what < 0 || what > 2) {
            return NONE;
        }
        if (n > PAIRS_SIZE) {
            return LACKING;
        }
        int known = ((n - 3) * 3 + w) * 3 + what;
        if (known >= exactPairs.length) {
            return NONE;
        }
        // Every pair is worked out: once is enough.
        if (exactPairs[known] == NONE) {
            exactPairs[known] = countExact(n, w, what == 0 ? SUM : what == 1 ? PRODUCT : QUOTIENT);
        }
        return exactPairs[known];
    }

    private int countExact(int n, int w, int kind) {
        int count = 0;
        for (int a = 0; a < 1 << n; a++) {
            for (int b = 0; b < 1 << n; b++) {
                // NIL comes of a pair with NIL and of a quotient by 0: neither counts as exact.
                rounder.ofTwo(n, w, a, b, kind);
                count += rounder.lean == 0 ? 1 : 0;
            }
        }
        return count;
    }

    // ---- the store, the names, the counts

    public int bit(int i) {
        if (i < -BIT_BOUND || i > BIT_BOUND) {
            return NONE;
        }
        return now.sum.nil ? LACKING : now.sum.bitOf(i);
    }

    public int stored(int n, int w) {
        if (!Row.isSize(n, w)) {
            return NONE;
        }
        now.sum.tell(real);
        return rounder.rounded(n, w, real);
    }

    public int let(int i, int what) {
        if (i < 0 || i >= text.names || i >= names.length || what < 0 || what > 3) {
            return NO_SUCH;
        }
        if (what == 0) {
            return names[i];
        }
        real.takeRow(now.size, now.wide, names[i]);
        if (real.nil || what > 1 && real.sign == 0) {
            return LACKING;
        }
        if (what == 1) {
            return real.whole();
        }
        return what == 2 ? (int) real.mant : real.power;
    }

    public int count(int what) {
        switch (what) {
            case 0:
                return now.size;
            case 1:
                return now.wide;
            case 2:
                return text.names;
            case 3:
                return now.sum.nil ? LACKING : now.sum.sign();
            case 4:
                return nilNames();
            case 5:
                return unlikeNames();
            case 6:
                return tape.length;
            case 7:
                return undoable;
            case 8:
                return fullSlots();
            case 9:
                return now.sum.nil || now.sum.sign() == 0 ? NO_POWER : now.sum.topPower();
            case 10:
                now.sum.tell(real);
                return real.whole();
            default:
                return NONE;
        }
    }

    private int nilNames() {
        int bits = 0;
        for (int i = 0; i < text.names && i < names.length; i++) {
            if (Row.isNil(now.size, names[i])) {
                bits |= 1 << i;
            }
        }
        return bits;
    }

    private int unlikeNames() {
        int unlike = 0;
        for (int i = 0; i < text.names && i < names.length; i++) {
            boolean isNew = true;
            for (int j = 0; j < i; j++) {
                isNew = isNew && names[j] != names[i];
            }
            unlike += isNew ? 1 : 0;
        }
        return unlike;
    }

    private int fullSlots() {
        int full = 0;
        for (int i = 0; i < slots.length; i++) {
            full += slots[i].full ? 1 : 0;
        }
        return full;
    }

    /** What a row's number says, and the parts of one row. */
    private static final class Row {
        int run;
        int regime;
        int exponent;
        int fractionBits;
        int fraction;

        static boolean isSize(int n, int w) {
            return n >= 3 && n <= 12 && w >= 0 && w <= 2;
        }

        static boolean isRow(int n, int w, int a) {
            return isSize(n, w) && a >= 0 && a < 1 << n;
        }

        static boolean areRows(int n, int w, int a, int b) {
            return isRow(n, w, a) && isRow(n, w, b);
        }

        static int nil(int n) {
            return 1 << (n - 1);
        }

        static boolean isNil(int n, int a) {
            return a == nil(n);
        }

        static int greatest(int n) {
            return nil(n) - 1;
        }

        static int one(int n) {
            return 1 << (n - 2);
        }

        static int negative(int n, int a) {
            return -a & ((1 << n) - 1);
        }

        static int after(int n, int a) {
            return (a + 1) & ((1 << n) - 1);
        }

        static int ahead(int n, int a) {
            return (a - 1) & ((1 << n) - 1);
        }

        /** Rows compare as whole numbers with a sign do; NIL is the least of these. */
        static int ordered(int n, int a) {
            return a >= nil(n) ? a - (1 << n) : a;
        }

        /** The row of the same value without its sign. */
        static int bare(int n, int a) {
            return a > nil(n) ? negative(n, a) : a;
        }

        /** Takes apart a row above 0. */
        void take(int n, int w, int a) {
            boolean ofOnes = (a >> (n - 2) & 1) == 1;
            run = runOf(n, a);
            regime = ofOnes ? run - 1 : -run;
            int behind = Math.max(0, n - 2 - run);
            int tail = a & ((1 << behind) - 1);
            exponent = behind >= w ? tail >> (behind - w) : tail << (w - behind);
            fractionBits = Math.max(0, behind - w);
            fraction = a & ((1 << fractionBits) - 1);
        }

        private static int runOf(int n, int a) {
            int bits = 0;
            int like = a >> (n - 2) & 1;
            for (int i = n - 2; i >= 0 && (a >> i & 1) == like; i--) {
                bits++;
            }
            return bits;
        }
    }

    /**
     * A number: its sign and, without it, a whole number times a power of 2; or NIL. If what it stands
     * for has more bits, the last one kept is 1 for all that are cut off: far behind those of any row, it
     * tells no more than that the number is not a row's value, nor halfway: all that rounding asks.
     */
    private static final class Real {
        private static final int KEPT_BITS = 45;

        /** Those of the row it was taken from latest, if that was neither 0 nor NIL. */
        final Row parts = new Row();
        boolean nil;
        int sign;
        long mant;
        int power;

        void setNil() {
            put(0, 0, 0);
            nil = true;
        }

        void put(int newSign, long newMant, int newPower) {
            nil = false;
            sign = newMant == 0 ? 0 : newSign;
            mant = newMant;
            power = newPower;
        }

        void take(Real from) {
            put(from.sign, from.mant, from.power);
            nil = from.nil;
        }

        void putWhole(int whole) {
            put(Integer.signum(whole), Math.abs((long) whole), 0);
        }

        /** The value of a row; what is neither 0 nor NIL has an odd whole number then. */
        void takeRow(int n, int w, int a) {
            if (a == 0) {
                put(0, 0, 0);
                return;
            }
            if (Row.isNil(n, a)) {
                setNil();
                return;
            }
            int bare = Row.bare(n, a);
            parts.take(n, w, bare);
            int scale = (parts.regime << w) + parts.exponent;
            long full = (1L << parts.fractionBits) + parts.fraction;
            int even = Long.numberOfTrailingZeros(full);
            put(bare == a ? 1 : -1, full >> even, scale - parts.fractionBits + even);
        }

        static int bitsOf(long number) {
            return 64 - Long.numberOfLeadingZeros(number);
        }

        /** The power of 2 of its highest bit. */
        int scale() {
            return power + 63 - Long.numberOfLeadingZeros(mant);
        }

        /** A number moved by some bits; the last bit is 1 for all that is cut off. */
        static long moved(long number, int bits) {
            if (bits >= 0) {
                return number << Math.min(bits, 62);
            }
            if (bits < -62) {
                return number == 0 ? 0 : 1;
            }
            long lost = number & ((1L << -bits) - 1);
            return number >> -bits | (lost == 0 ? 0 : 1);
        }

        void squeeze() {
            int tooMany = bitsOf(mant) - KEPT_BITS;
            if (tooMany > 0) {
                mant = moved(mant, -tooMany);
                power += tooMany;
            }
        }

        /** The nearest whole number, of two the even one, within the bounds. */
        int whole() {
            if (nil || sign == 0) {
                return 0;
            }
            if (scale() > 30) {
                return sign * WHOLE_BOUND;
            }
            if (scale() < -1) {
                return 0;
            }
            // Four times the number, its last bit 1 for all behind it: so a half is told from more.
            long quarters = moved(mant, power + 2);
            long whole = quarters >> 2;
            long rest = quarters & 3;
            if (rest == 3 || rest == 2 && (whole & 1) == 1) {
                whole++;
            }
            return sign * (int) Math.min(whole, WHOLE_BOUND);
        }

        // The nearest fraction: asked of the values of rows alone, so that no product here is too great.

        private int bitsBelow() {
            return Math.max(0, Math.min(-power, 48));
        }

        private long overBits() {
            return sign * (mant << Math.max(0, Math.min(power, 48)));
        }

        /** What is above the line of the nearest fraction with this below it; of two alike near the less. */
        long nearestAbove(int below) {
            int bits = bitsBelow();
            long scaled = overBits() * below;
            long floor = scaled >> bits;
            long rest = scaled - (floor << bits);
            return rest > (1L << bits) - rest ? floor + 1 : floor;
        }

        /** The least below the line, up to q, of the nearest fractions. */
        int nearestBelow(int q) {
            int best = 1;
            long bestMiss = missOf(1);
            for (int below = 2; below <= q && bestMiss != 0; below++) {
                long miss = missOf(below);
                // Misses are by (below): cross-multiplied they are compared without loss.
                if (miss * best < bestMiss * below) {
                    best = below;
                    bestMiss = miss;
                }
            }
            return best;
        }

        private long missOf(int below) {
            return Math.abs(overBits() * below - (nearestAbove(below) << bitsBelow()));
        }
    }

    /** Rounds to rows, and what is worked out of rows; tells how it was rounded. */
    private static final class Rounder {
        private static final int QUOTIENT_BITS = 40;
        private static final int ROOT_BITS = 40;
        private static final int HIGHEST_ROOT_BIT = 30;
        private static final int ADDED_BITS = 58;

        final Real left = new Real();
        final Real right = new Real();
        final Real out = new Real();
        /** Of the latest: 0 not rounded, 1 the row's value is more, -1 less; -2 NIL. */
        int lean;

        int ofTwo(int n, int w, int a, int b, int what) {
            left.takeRow(n, w, a);
            right.takeRow(n, w, b);
            switch (what) {
                case SUM:
                    addBoth();
                    break;
                case DIFFERENCE:
                    right.sign = -right.sign;
                    addBoth();
                    break;
                case PRODUCT:
                    multiplyBoth();
                    break;
                default:
                    divideBoth();
                    break;
            }
            return rounded(n, w, out);
        }

        int ofRoot(int n, int w, int a) {
            left.takeRow(n, w, a);
            takeRoot();
            return rounded(n, w, out);
        }

        int ofQuotient(int n, int w, int a, int b) {
            left.putWhole(a);
            right.putWhole(b);
            divideBoth();
            return rounded(n, w, out);
        }

        int ofWhole(int n, int w, int a) {
            out.putWhole(a);
            return rounded(n, w, out);
        }

        int ofHalf(int n, int w, int a) {
            out.takeRow(n, w, a);
            out.power--;
            return rounded(n, w, out);
        }

        int ofFused(int n, int w, int a, int b, int c) {
            left.takeRow(n, w, a);
            right.takeRow(n, w, b);
            multiplyBoth();
            left.take(out);
            right.takeRow(n, w, c);
            addBoth();
            return rounded(n, w, out);
        }

        private void addBoth() {
            if (left.nil || right.nil) {
                out.setNil();
                return;
            }
            if (left.sign == 0 || right.sign == 0) {
                out.take(left.sign == 0 ? right : left);
                return;
            }
            boolean leftIsHigh = left.scale() >= right.scale();
            Real high = leftIsHigh ? left : right;
            Real low = leftIsHigh ? right : left;
            int up = ADDED_BITS - Real.bitsOf(high.mant);
            int power = high.power - up;
            long large = Real.moved(high.mant, up);
            long small = Real.moved(low.mant, low.power - power);
            long all = high.sign == low.sign ? large + small : large - small;
            out.put(all < 0 ? -high.sign : high.sign, Math.abs(all), power);
        }

        private void multiplyBoth() {
            if (left.nil || right.nil) {
                out.setNil();
                return;
            }
            out.put(left.sign * right.sign, left.mant * right.mant, left.power + right.power);
        }

        private void divideBoth() {
            if (left.nil || right.nil || right.mant == 0) {
                out.setNil();
                return;
            }
            long over = left.mant << QUOTIENT_BITS;
            long whole = over / right.mant;
            long last = whole * right.mant == over ? 0 : 1;
            out.put(left.sign * right.sign, whole | last, left.power - right.power - QUOTIENT_BITS);
        }

        private void takeRoot() {
            if (left.nil || left.sign < 0) {
                out.setNil();
                return;
            }
            // The power is to be even, for its half is the root's.
            int up = ROOT_BITS + (left.power & 1);
            long square = left.mant << up;
            long root = wholeRoot(square);
            long last = root * root == square ? 0 : 1;
            out.put(left.sign, root | last, (left.power - up) >> 1);
        }

        private static long wholeRoot(long square) {
            long root = 0;
            for (int i = HIGHEST_ROOT_BIT; i >= 0; i--) {
                long more = root | 1L << i;
                if (more * more <= square) {
                    root = more;
                }
            }
            return root;
        }

        int rounded(int n, int w, Real number) {
            if (number.nil) {
                lean = LACKING;
                return Row.nil(n);
            }
            if (number.sign == 0) {
                lean = 0;
                return 0;
            }
            out.take(number);
            out.squeeze();
            int row = roundedBare(n, w);
            if (number.sign > 0) {
                return row;
            }
            lean = -lean;
            return Row.negative(n, row);
        }

        /** Of what is above 0, or is told without its sign. */
        private int roundedBare(int n, int w) {
            int top = (n - 2) << w;
            int scale = out.scale();
            if (scale > top) {
                lean = -1;
                return Row.greatest(n);
            }
            if (scale < -top) {
                lean = 1;
                return 1;
            }
            int bits = Real.bitsOf(out.mant) - 1;
            long all = headOf(scale, w) << bits | out.mant & ((1L << bits) - 1);
            return cut(all, headBits(scale, w) + bits - (n - 1));
        }

        // A number's bits behind the sign, as a row without end would have them: the head (run, the bit
        // that ends it, exponent), then the fraction. A row has the first of them.

        private static int headBits(int scale, int w) {
            int regime = scale >> w;
            return (regime >= 0 ? regime + 2 : 1 - regime) + w;
        }

        private static long headOf(int scale, int w) {
            int regime = scale >> w;
            long runAndEnd = regime >= 0 ? (1L << (regime + 2)) - 2 : 1;
            return runAndEnd << w | scale & ((1 << w) - 1);
        }

        /** The first bit cut off is that of the row between two of the next size: at it all is decided. */
        private int cut(long all, int tooMany) {
            lean = 0;
            if (tooMany <= 0) {
                return (int) (all << -tooMany);
            }
            long row = all >> tooMany;
            long rest = all & ((1L << tooMany) - 1);
            long half = 1L << (tooMany - 1);
            boolean up = rest > half || rest == half && (row & 1) == 1;
            if (rest != 0) {
                lean = up ? 1 : -1;
            }
            return (int) (up ? row + 1 : row);
        }
    }

    /** A sum of products held without loss, its sign apart; or NIL. */
    private static final class Sum {
        private static final int WORDS = 7;
        private static final int WORD_BITS = 32;
        private static final long WORD = (1L << WORD_BITS) - 1;
        /** The power of 2 of the lowest bit: a product of two rows has none below 2 to the -80. */
        private static final int LOWEST = -96;

        final long[] words = new long[WORDS];
        boolean below;
        boolean nil;

        void wipe() {
            for (int i = 0; i < words.length; i++) {
                words[i] = 0;
            }
            below = false;
            nil = false;
        }

        void take(Sum from) {
            for (int i = 0; i < words.length && i < from.words.length; i++) {
                words[i] = from.words[i];
            }
            below = from.below;
            nil = from.nil;
        }

        int sign() {
            return highestBit() < 0 ? 0 : below ? -1 : 1;
        }

        void addProduct(Real one, Real other, boolean away) {
            nil = nil || one.nil || other.nil;
            if (nil || one.sign == 0 || other.sign == 0) {
                return;
            }
            boolean productBelow = one.sign != other.sign;
            boolean comesBelow = productBelow != away;
            addBits(one.mant * other.mant, one.power + other.power - LOWEST, comesBelow == below);
            if (words[WORDS - 1] >> (WORD_BITS - 1) != 0) {
                negateWords();
                below = !below;
            }
        }

        private void addBits(long number, int from, boolean more) {
            int first = from >> 5;
            long moved = number << (from & (WORD_BITS - 1));
            long low = moved & WORD;
            long high = moved >> WORD_BITS;
            long carry = more ? low : -low;
            long next = more ? high : -high;
            for (int i = Math.max(0, first); i < words.length; i++) {
                long word = words[i] + carry;
                words[i] = word & WORD;
                carry = (word >> WORD_BITS) + next;
                next = 0;
            }
        }

        /** Less went below 0: the words without their sign again. */
        private void negateWords() {
            long carry = 1;
            for (int i = 0; i < words.length; i++) {
                long word = (~words[i] & WORD) + carry;
                words[i] = word & WORD;
                carry = word >> WORD_BITS;
            }
        }

        private int highestBit() {
            for (int i = words.length - 1; i >= 0; i--) {
                if (words[i] != 0) {
                    return i * WORD_BITS + Real.bitsOf(words[i]) - 1;
                }
            }
            return -1;
        }

        int topPower() {
            return highestBit() + LOWEST;
        }

        int bitOf(int power) {
            return bitAt(power - LOWEST);
        }

        private int bitAt(int i) {
            if (i < 0 || i >= words.length * WORD_BITS) {
                return 0;
            }
            return (int) (words[i >> 5] >> (i & (WORD_BITS - 1)) & 1);
        }

        private boolean hasBitBelow(int end) {
            for (int i = 0; i < end && i < words.length * WORD_BITS; i++) {
                if (bitAt(i) == 1) {
                    return true;
                }
            }
            return false;
        }

        /** Its highest bits, the last one 1 for all others. */
        void tell(Real to) {
            if (nil) {
                to.setNil();
                return;
            }
            int high = highestBit();
            int low = Math.max(0, high - Real.KEPT_BITS + 1);
            long number = 0;
            for (int i = high; i >= low; i--) {
                number = number << 1 | bitAt(i);
            }
            to.put(below ? -1 : 1, number | (hasBitBelow(low) ? 1 : 0), low + LOWEST);
        }
    }

    /** The decimals of a number, all there are. */
    private static final class Decimals {
        final byte[] signs = new byte[SIGN_ROOM];
        int length;

        int signAt(int i) {
            return i < 0 || i >= length || i >= signs.length ? NONE : signs[i];
        }

        void write(Real number) {
            length = 0;
            if (number.nil) {
                append('n');
                append('i');
                append('l');
                return;
            }
            if (number.sign < 0) {
                append('-');
            }
            int bits = Math.max(0, Math.min(-number.power, 48));
            int up = Math.max(0, Math.min(number.power, 48));
            appendWhole((number.mant << up) >> bits);
            long mask = (1L << bits) - 1;
            long rest = number.mant & mask;
            if (rest != 0) {
                append('.');
            }
            // Each digit takes one of the bits below the point.
            for (int i = 0; i < bits && rest != 0; i++) {
                rest *= 10;
                append((int) (rest >> bits) + '0');
                rest &= mask;
            }
        }

        private void appendWhole(long whole) {
            long unit = 1;
            for (int i = 0; i < 17 && unit * 10 <= whole; i++) {
                unit *= 10;
            }
            for (; unit > 0; unit /= 10) {
                append((int) (whole / unit % 10) + '0');
            }
        }

        private void append(int sign) {
            if (length < signs.length) {
                signs[length] = (byte) sign;
                length++;
            }
        }
    }

    private static final class Tape {
        final byte[] bytes = new byte[TAPE_ROOM];
        int length;

        void putFour(int four) {
            for (int shift = 24; shift >= 0; shift -= 8) {
                if (length < bytes.length) {
                    bytes[length] = (byte) (four >> shift);
                    length++;
                }
            }
        }

        int at(int i) {
            return i < 0 || i >= length || i >= bytes.length ? NONE : bytes[i] & 255;
        }

        void take(Tape from) {
            length = Math.min(from.length, bytes.length);
            for (int i = 0; i < length && i < from.bytes.length; i++) {
                bytes[i] = from.bytes[i];
            }
        }
    }

    /** What is done by hand changes these alone: the names follow from them and the text. */
    private static final class State {
        final Sum sum = new Sum();
        int size = 8;
        int wide = 1;

        void take(State from) {
            sum.take(from.sum);
            size = from.size;
            wide = from.wide;
        }
    }

    private static final class Slot {
        final State state = new State();
        final Tape tape = new Tape();
        boolean full;
    }

    /** A text as a row of orders: each takes rows from a stack, and puts one there or names it. */
    private static final class Text {
        final int[] orders = new int[TOKEN_ROOM];
        final int[] values = new int[TOKEN_ROOM];
        int length;
        int names;
        int size;
        int wide;

        void append(int order, int value) {
            if (length < orders.length && length < values.length) {
                orders[length] = order;
                values[length] = value;
                length++;
            }
        }
    }

    /** Works out the names of a text. */
    private static final class Worker {
        final Rounder rounder = new Rounder();
        private final Sum sum = new Sum();
        private final Real one = new Real();
        private final Real other = new Real();
        private final int[] stack = new int[TOKEN_ROOM];
        private int height;

        void workOut(Text text, int n, int w, int[] names) {
            height = 0;
            for (int i = 0; i < text.length && i < text.orders.length && i < text.values.length; i++) {
                int value = text.values[i];
                switch (text.orders[i]) {
                    case PUT_INT:
                        push(rounder.ofWhole(n, w, value));
                        break;
                    case PUT_NAME:
                        push(value >= 0 && value < names.length ? names[value] : 0);
                        break;
                    case NEGATE:
                        push(Row.negative(n, pop()));
                        break;
                    case TAKE_ROOT:
                        push(rounder.ofRoot(n, w, pop()));
                        break;
                    case ADD_PRODUCTS:
                        addProducts(n, w, value);
                        break;
                    case END_LINE:
                        if (value >= 0 && value < names.length) {
                            names[value] = pop();
                        }
                        break;
                    default:
                        int last = pop();
                        push(rounder.ofTwo(n, w, pop(), last, text.orders[i]));
                        break;
                }
            }
        }

        private void addProducts(int n, int w, int products) {
            sum.wipe();
            for (int i = 0; i < products; i++) {
                one.takeRow(n, w, pop());
                other.takeRow(n, w, pop());
                sum.addProduct(one, other, false);
            }
            sum.tell(one);
            push(rounder.rounded(n, w, one));
        }

        private void push(int row) {
            if (height >= 0 && height < stack.length) {
                stack[height] = row;
                height++;
            }
        }

        private int pop() {
            if (height <= 0 || height > stack.length) {
                return 0;
            }
            height--;
            return stack[height];
        }
    }

    /**
     * Reads a tape, token by token, into a text, up to its first fault. Of the faults there are two
     * ranks: those of the later one (of names and sizes) count only if the whole text has none of the
     * former (of syntax and room).
     */
    private static final class Reader {
        private static final int NAME_LETTERS = 8;
        private static final int INT_DIGITS = 4;

        // The kinds of tokens; a sign's kind is its byte.
        private static final int END = 0;
        private static final int NO_TOKEN = 1;
        private static final int A_NAME = 2;
        private static final int AN_INT = 3;
        private static final int WORD_SIZE = 4;
        private static final int WORD_LET = 5;
        private static final int WORD_ROOT = 6;
        private static final int WORD_SUM = 7;

        // Words as numbers, five bits a letter.
        private static final long CODE_SIZE = ((19 * 32 + 9) * 32 + 26) * 32 + 5;
        private static final long CODE_LET = (12 * 32 + 5) * 32 + 20;
        private static final long CODE_ROOT = ((18 * 32 + 15) * 32 + 15) * 32 + 20;
        private static final long CODE_SUM = (19 * 32 + 21) * 32 + 13;

        final Tape tape = new Tape();
        private final long[] told = new long[NAME_ROOM];
        /** The one it reads into: no text in force, for a fault may come yet. */
        Text text = new Text();
        int faultAt;
        private int pos;
        private int kind;
        private int at;
        private long value;
        private int tokens;
        private int lets;
        private int open;
        private int fault;
        private int laterFault;
        private int laterAt;

        /** The number of the fault, 0 without. */
        int check() {
            begin();
            taken(WORD_SIZE);
            text.size = takeNumber(3, 12);
            text.wide = takeNumber(0, 2);
            taken(';');
            for (int i = 0; i <= NAME_ROOM && kind == WORD_LET; i++) {
                parseLine();
            }
            if (kind != END) {
                stop(SYNTAX);
            }
            if (fault == 0 && laterFault != 0) {
                fault = laterFault;
                faultAt = laterAt;
            }
            return fault;
        }

        private void begin() {
            text.length = 0;
            text.names = 0;
            pos = 0;
            tokens = 0;
            lets = 0;
            open = 0;
            fault = 0;
            faultAt = NONE;
            laterFault = 0;
            laterAt = NONE;
            scan();
        }

        // ---- tokens

        private void scan() {
            while (pos < tape.length && isBlank(tape.at(pos))) {
                pos++;
            }
            at = pos;
            int first = tape.at(pos);
            if (pos >= tape.length) {
                kind = END;
            } else if (isLetter(first)) {
                scanWord();
            } else if (isDigit(first)) {
                scanInt();
            } else if (isSign(first)) {
                kind = first;
                pos++;
            } else {
                kind = NO_TOKEN;
            }
            tokens++;
        }

        private void scanWord() {
            value = 0;
            while (pos < tape.length && isLetter(tape.at(pos))) {
                value = value * 32 + tape.at(pos) - 'a' + 1;
                pos++;
            }
            kind = pos - at > NAME_LETTERS ? NO_TOKEN : kindOfWord(value);
        }

        private void scanInt() {
            value = 0;
            while (pos < tape.length && isDigit(tape.at(pos))) {
                value = value * 10 + tape.at(pos) - '0';
                pos++;
            }
            kind = pos - at > INT_DIGITS ? NO_TOKEN : AN_INT;
        }

        private static int kindOfWord(long code) {
            if (code == CODE_SIZE) {
                return WORD_SIZE;
            }
            if (code == CODE_LET) {
                return WORD_LET;
            }
            if (code == CODE_ROOT) {
                return WORD_ROOT;
            }
            return code == CODE_SUM ? WORD_SUM : A_NAME;
        }

        private static boolean isBlank(int sign) {
            return sign == 9 || sign == 10 || sign == 13 || sign == 32;
        }

        private static boolean isLetter(int sign) {
            return sign >= 'a' && sign <= 'z';
        }

        private static boolean isDigit(int sign) {
            return sign >= '0' && sign <= '9';
        }

        private static boolean isSign(int sign) {
            return sign >= '(' && sign <= '-' || sign == '/' || sign == ';';
        }

        // ---- faults

        /** The token at hand is the fault; that it is the end then lets every loop end. */
        private void stop(int number) {
            if (fault == 0) {
                fault = number;
                faultAt = at;
            }
            kind = END;
        }

        private void noteLater(int number, int where) {
            if (laterFault == 0) {
                laterFault = number;
                laterAt = where;
            }
        }

        /** The token at hand, which is to be of this kind, is taken; false: it is a fault. */
        private boolean taken(int wanted) {
            if (fault != 0) {
                return false;
            }
            if (kind != wanted) {
                stop(SYNTAX);
                return false;
            }
            lets += kind == WORD_LET ? 1 : 0;
            open += kind == '(' ? 1 : kind == ')' ? -1 : 0;
            if (tokens > TOKEN_ROOM || lets > NAME_ROOM || open > OPEN_ROOM) {
                stop(ROOM);
                return false;
            }
            scan();
            return true;
        }

        // ---- the text

        private int takeNumber(int least, int most) {
            long number = value;
            int where = at;
            if (!taken(AN_INT)) {
                return least;
            }
            if (number < least || number > most) {
                noteLater(WRONG, where);
                return least;
            }
            return (int) number;
        }

        private void parseLine() {
            taken(WORD_LET);
            long name = value;
            int where = at;
            if (!taken(A_NAME)) {
                return;
            }
            if (indexOf(name) != NONE) {
                noteLater(TWICE, where);
            }
            parseExpr(0);
            taken(';');
            text.append(END_LINE, text.names);
            if (text.names < told.length) {
                told[text.names] = name;
                text.names++;
            }
        }

        private int indexOf(long name) {
            for (int i = 0; i < text.names && i < told.length; i++) {
                if (told[i] == name) {
                    return i;
                }
            }
            return NONE;
        }

        /** Each ( goes one deeper, and no more of them can be open than there is room for. */
        private void parseExpr(int depth) {
            if (depth > OPEN_ROOM) {
                stop(ROOM);
                return;
            }
            boolean negated = kind == '-';
            if (negated) {
                taken('-');
            }
            parseTerm(depth);
            if (negated) {
                text.append(NEGATE, 0);
            }
            for (int i = 0; i <= TOKEN_ROOM && (kind == '+' || kind == '-'); i++) {
                int order = kind == '+' ? SUM : DIFFERENCE;
                taken(kind);
                parseTerm(depth);
                text.append(order, 0);
            }
        }

        private void parseTerm(int depth) {
            parseAtom(depth);
            for (int i = 0; i <= TOKEN_ROOM && (kind == '*' || kind == '/'); i++) {
                int order = kind == '*' ? PRODUCT : QUOTIENT;
                taken(kind);
                parseAtom(depth);
                text.append(order, 0);
            }
        }

        private void parseAtom(int depth) {
            switch (kind) {
                case AN_INT:
                    text.append(PUT_INT, (int) value);
                    taken(AN_INT);
                    break;
                case A_NAME:
                    parseNameInExpr();
                    break;
                case '(':
                    parseOpened(depth);
                    break;
                case WORD_ROOT:
                    taken(WORD_ROOT);
                    parseOpened(depth);
                    text.append(TAKE_ROOT, 0);
                    break;
                case WORD_SUM:
                    parseSum(depth);
                    break;
                default:
                    stop(SYNTAX);
                    break;
            }
        }

        private void parseNameInExpr() {
            int index = indexOf(value);
            if (index == NONE) {
                noteLater(NAME, at);
            }
            text.append(PUT_NAME, index);
            taken(A_NAME);
        }

        private void parseOpened(int depth) {
            if (taken('(')) {
                parseExpr(depth + 1);
                taken(')');
            }
        }

        private void parseSum(int depth) {
            taken(WORD_SUM);
            if (!taken('(')) {
                return;
            }
            int products = 0;
            do {
                if (products > 0) {
                    taken(',');
                }
                parseExpr(depth + 1);
                taken(',');
                parseExpr(depth + 1);
                products++;
            } while (products <= TOKEN_ROOM && kind == ',');
            taken(')');
            text.append(ADD_PRODUCTS, products);
        }
    }
}
