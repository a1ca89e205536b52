/** The edges of the store, the past, the slots and the counts: promises 1, 6 to 9, 21, 24, 27 to 29. */
public final class EdgeStateTest {
    private static final Due DUE = new Due();
    private static final int ONE = 64;
    private static final int HALF = 48;
    private static final int NIL = 128;

    public static void main(String[] args) {
        newObject();
        resizable();
        resizedNames();
        storable();
        nilUntilCleared();
        cleared();
        lastForty();
        undoOfEach();
        nothingByHand();
        held();
        restored();
        bits();
        storedRounded();
        countedNames();
        countedStore();
        countedWhole();
        countedRest();
        DUE.end();
    }

    private static void counts(String call, TaperedNumbers x, int... want) {
        for (int i = 0; i < want.length; i++) {
            DUE.same(call + ": count(" + i + ")", x.count(i), want[i]);
        }
    }

    private static TaperedNumbers object(String text) {
        TaperedNumbers x = new TaperedNumbers();
        DUE.same("read of " + text, Due.read(x, text), 0);
        return x;
    }

    /** The same product so many times. */
    private static void store(TaperedNumbers x, int times, int a, int b, boolean away) {
        for (int i = 0; i < times; i++) {
            DUE.yes("store", x.store(a, b, away));
        }
    }

    private static void newObject() {
        DUE.sentence("TaperedNumbers(): SIZE 8, WIDE 1; no NAMES");
        TaperedNumbers x = new TaperedNumbers();
        counts("new", x, 8, 1, 0, 0, 0, 0, 0, 0, 0, -1000, 0);
        DUE.same("place", x.place(), -1);
        for (int i = 0; i < 8; i++) {
            DUE.same("let(" + i + ",0)", x.let(i, 0), -100000);
        }
        DUE.same("NONE", TaperedNumbers.NONE, -1);
        TaperedNumbers used = object("size 3 2;let a 1;");
        used.store(1, 1, false);
        used.hold(0);
        counts("another new one", new TaperedNumbers(), 8, 1, 0, 0, 0, 0, 0, 0, 0, -1000, 0);
    }

    private static void resizable() {
        DUE.sentence("resize: true; false, and nothing happens: no such SIZE, WIDE, both are so");
        for (int n = -1; n <= 15; n++) {
            for (int w = -2; w <= 5; w++) {
                TaperedNumbers x = new TaperedNumbers();
                boolean fits = n >= 3 && n <= 12 && w >= 0 && w <= 2 && !(n == 8 && w == 1);
                DUE.same("resize(" + n + "," + w + ")", x.resize(n, w), fits);
                counts("resized", x, fits ? n : 8, fits ? w : 1, 0, 0, 0, 0, 0, fits ? 1 : 0);
                DUE.no("resize(" + n + "," + w + ") again", x.resize(n, w));
                DUE.same("undo", x.undo(), fits);
                counts("undone", x, 8, 1, 0, 0, 0, 0, 0, 0);
            }
        }
        TaperedNumbers x = new TaperedNumbers();
        DUE.yes("another WIDE alone", x.resize(8, 2));
        DUE.yes("another SIZE alone", x.resize(9, 2));
        DUE.yes("both", x.resize(8, 1));
        DUE.no("both are so", x.resize(8, 1));
        DUE.same("things", x.count(7), 3);
        for (int far : new int[] {Integer.MIN_VALUE, Integer.MAX_VALUE, 8 + 256, 8 - 256, 1 << 16}) {
            DUE.no("resize(" + far + ",0)", x.resize(far, 0));
            DUE.no("resize(8," + far + ")", x.resize(8, far));
        }
    }

    private static void resizedNames() {
        DUE.sentence("All NAMES are RESIZED: worked out anew (the STORE stays)");
        TaperedNumbers x = object("size 3 0;let third 1/3;let big 9999;let nil 1/(third-1/3);let kept sum(3,third,-1,1);");
        x.store(3, 2, false);
        x.store(1, 1, true);
        for (int n = 12; n >= 3; n--) {
            for (int w = 0; w <= 2; w++) {
                DUE.yes("resize", x.resize(n, w));
                int three = Model.rounded(n, w, Model.Frac.of(3, 1));
                int third = Model.both(n, w, Model.rounded(n, w, Model.Frac.of(1, 1)), three, 3);
                DUE.same("third", x.let(0, 0), third);
                DUE.same("big", x.let(1, 0), Model.rounded(n, w, Model.Frac.of(9999, 1)));
                DUE.same("nil", x.let(2, 0), 1 << (n - 1));
                DUE.same("kept", x.let(3, 0), Model.fused(n, w, three, third, Model.rounded(n, w, Model.Frac.of(-1, 1))));
                // 2 less a quarter.
                DUE.same("the STORE", x.bit(0) * 100 + x.bit(-1) * 10 + x.bit(-2), 111);
                DUE.same("its sign", x.count(3), 1);
                DUE.same("its WHOLE", x.count(10), 2);
            }
        }
        TaperedNumbers nil = new TaperedNumbers();
        nil.store(NIL, 0, false);
        nil.resize(3, 0);
        DUE.same("NIL stays", nil.count(3), -2);
        DUE.same("NIL stays", nil.stored(3, 0), 4);
    }

    private static void storable() {
        DUE.sentence("store: true; false, and nothing happens: no such ROWS (of SIZE and WIDE as told)");
        for (int n = 3; n <= 12; n++) {
            for (int w = 0; w <= 2; w++) {
                TaperedNumbers x = new TaperedNumbers();
                x.resize(n, w);
                int all = 1 << n;
                int things = x.count(7);
                for (int wrong : new int[] {-1, all, all + 1, 2 * all, -all, Integer.MIN_VALUE, Integer.MAX_VALUE}) {
                    for (boolean away : new boolean[] {false, true}) {
                        DUE.no("store(" + wrong + ",1)", x.store(wrong, 1, away));
                        DUE.no("store(1," + wrong + ")", x.store(1, wrong, away));
                        DUE.no("store(" + wrong + "," + wrong + ")", x.store(wrong, wrong, away));
                        DUE.no("store(" + wrong + ",NIL)", x.store(wrong, all / 2, away));
                    }
                }
                counts("nothing happened", x, n, w, 0, 0, 0, 0, 0, things, 0, -1000, 0);
                for (int a : new int[] {0, 1, all / 2 - 1, all / 2 + 1, all - 1}) {
                    DUE.yes("store(" + a + ",0)", x.store(a, 0, false));
                    DUE.yes("store(0," + a + ")", x.store(0, a, true));
                }
                counts("0 came ten times", x, n, w, 0, 0, 0, 0, 0, things + 10, 0, -1000, 0);
                DUE.yes("the last ROW", x.store(all - 1, all - 1, false));
                DUE.same("the least squared", x.count(9), -2 * ((n - 2) << w));
                DUE.yes("and away", x.store(1, all - 1, false));
                DUE.same("0", x.count(3), 0);
                DUE.yes("the greatest", x.store(all / 2 - 1, all / 2 + 1, true));
                DUE.same("squared", x.count(9), 2 * ((n - 2) << w));
                DUE.same("twice less is more", x.count(3), 1);
            }
        }
    }

    private static void nilUntilCleared() {
        DUE.sentence("STORE: or NIL (as soon as NIL comes to it, until it is cleared)");
        int[][] pairs = {{NIL, ONE}, {ONE, NIL}, {NIL, NIL}, {NIL, 0}, {0, NIL}};
        for (int[] pair : pairs) {
            for (boolean away : new boolean[] {false, true}) {
                TaperedNumbers x = new TaperedNumbers();
                store(x, 3, ONE, ONE, false);
                DUE.yes("NIL comes", x.store(pair[0], pair[1], away));
                counts("NIL", x, 8, 1, 0, -2, 0, 0, 0, 4, 0, -1000, 0);
                DUE.yes("it stays", x.store(ONE, ONE, away));
                DUE.yes("it stays", x.store(NIL, NIL, !away));
                counts("NIL", x, 8, 1, 0, -2, 0, 0, 0, 6, 0, -1000, 0);
                DUE.yes("clear", x.clear());
                counts("cleared", x, 8, 1, 0, 0, 0, 0, 0, 7, 0, -1000, 0);
                DUE.yes("a new one", x.store(ONE, ONE, true));
                DUE.same("-1", x.count(10), -1);
                x.undo();
                DUE.yes("undo of clear", x.undo());
                DUE.same("NIL again", x.count(3), -2);
                x.undo();
                x.undo();
                DUE.yes("undo of NIL", x.undo());
                DUE.same("3 again", x.count(10), 3);
            }
        }
    }

    private static void cleared() {
        DUE.sentence("clear: true; false: it is 0");
        TaperedNumbers x = new TaperedNumbers();
        DUE.no("new", x.clear());
        x.store(0, ONE, false);
        DUE.no("0 came", x.clear());
        x.store(ONE, ONE, false);
        x.store(ONE, ONE, true);
        DUE.no("it came back to 0", x.clear());
        x.store(1, 1, false);
        DUE.yes("the least", x.clear());
        DUE.no("twice", x.clear());
        x.store(1, 1, true);
        DUE.yes("below 0", x.clear());
        x.resize(12, 2);
        x.store(1, 1, false);
        DUE.yes("2 to the -80", x.clear());
        x.store(2047, 2047, true);
        DUE.yes("-2 to the 80", x.clear());
        DUE.same("things", x.count(7), 3 + 2 + 2 + 1 + 4);
        for (int i = 0; i < 12; i++) {
            DUE.yes("undo", x.undo());
        }
        DUE.no("undo", x.undo());
        DUE.no("clear", x.clear());
    }

    private static void lastForty() {
        DUE.sentence("undo: true; false: there is none (the last 40 can be)");
        for (int things : new int[] {0, 1, 2, 38, 39, 40, 41, 42, 79, 80, 81, 120, 121}) {
            TaperedNumbers x = new TaperedNumbers();
            for (int i = 1; i <= things; i++) {
                x.store(ONE, ONE, false);
                DUE.same("count(7) after " + i, x.count(7), Math.min(i, 40));
            }
            int last = Math.min(things, 40);
            for (int i = 1; i <= last; i++) {
                DUE.yes("undo " + i + " of " + things, x.undo());
                DUE.same("count(10)", x.count(10), things - i);
                DUE.same("count(7)", x.count(7), last - i);
            }
            DUE.no("one more of " + things, x.undo());
            DUE.same("nothing happens", x.count(10), things - last);
            x.store(ONE, ONE, true);
            DUE.same("one thing", x.count(7), 1);
            DUE.yes("undo of it", x.undo());
            DUE.no("no more", x.undo());
            DUE.same("as it was", x.count(10), things - last);
        }
        // Some back and forth about the full past: what was undone is no thing any more.
        TaperedNumbers x = new TaperedNumbers();
        int sum = 0;
        int things = 0;
        for (int i = 0; i < 60; i++) {
            store(x, 3, ONE, ONE, false);
            sum += 3;
            things = Math.min(40, things + 3);
            DUE.yes("undo", x.undo());
            sum--;
            things--;
            DUE.same("sum", x.count(10), sum);
            DUE.same("things", x.count(7), things);
        }
        for (int i = 0; i < 39; i++) {
            DUE.yes("undo", x.undo());
            sum--;
            DUE.same("sum", x.count(10), sum);
        }
        DUE.no("undo", x.undo());
    }

    private static void undoOfEach() {
        DUE.sentence("undo: The last thing done by hand is undone");
        TaperedNumbers x = object("size 8 1;let a 1/3;");
        int third = x.let(0, 0);
        x.store(ONE, HALF, true);
        x.resize(5, 0);
        x.store(8, 8, false);
        x.resize(12, 2);
        x.clear();
        x.store(2048, 0, false);
        x.clear();
        x.resize(3, 0);
        int[] sizes = {12, 12, 12, 12, 5, 5, 8, 8};
        int[] wides = {2, 2, 2, 2, 0, 0, 1, 1};
        int[] signs = {0, -2, 0, 1, 1, -1, -1, 0};
        for (int i = 0; i < sizes.length; i++) {
            DUE.yes("undo " + i, x.undo());
            DUE.same("SIZE", x.count(0), sizes[i]);
            DUE.same("WIDE", x.count(1), wides[i]);
            DUE.same("sign", x.count(3), signs[i]);
            DUE.same("a", x.let(0, 0), x.both(sizes[i], wides[i], x.quotient(sizes[i], wides[i], 1, 1), x.quotient(sizes[i], wides[i], 3, 1), 3));
        }
        DUE.no("undo", x.undo());
        DUE.same("a", x.let(0, 0), third);
    }

    private static void nothingByHand() {
        DUE.sentence("By hand: a product comes or goes, it is cleared, all NAMES are RESIZED (no other call)");
        TaperedNumbers x = object("size 8 1;let a 1;");
        x.store(ONE, ONE, false);
        Due.feed(x, "size 8 0;let b 1;");
        x.back(8);
        x.hold(0);
        x.hold(1);
        x.read();
        Due.feed(x, "size 9 1");
        x.read();
        DUE.same("a text was read: none", x.count(7), 0);
        x.store(ONE, ONE, false);
        Due.feed(x, "size 9 1");
        x.back(1);
        x.hold(2);
        x.read();
        x.both(8, 1, 1, 2, 0);
        x.pairs(6, 1, 0);
        DUE.same("one thing", x.count(7), 1);
        DUE.yes("undo", x.undo());
        DUE.same("what it was", x.count(3), 0);
        DUE.same("SLOTS are as they are", x.count(8), 1);
        DUE.no("no more", x.undo());
        DUE.sentence("undo: what is no thing done by hand stays");
        Due.feed(x, "ab");
        x.store(ONE, ONE, false);
        Due.feed(x, "c");
        x.hold(0);
        DUE.yes("undo", x.undo());
        DUE.same("the tape", x.count(6), 3);
        DUE.same("the SLOTS", x.count(8), 2);
        DUE.yes("restore", x.restore(0));
        DUE.same("it holds 1", x.count(10), 1);
    }

    private static void held() {
        DUE.sentence("hold: All is held in a SLOT (0 .. 2): true; false: no such one");
        TaperedNumbers x = object("size 8 1;let a 3;");
        for (int slot : new int[] {-1, 3, 4, -2, Integer.MIN_VALUE, Integer.MAX_VALUE, 256, 65536}) {
            DUE.no("hold(" + slot + ")", x.hold(slot));
            DUE.same("none", x.count(8), 0);
        }
        for (int slot = 0; slot < 3; slot++) {
            DUE.yes("hold", x.hold(slot));
            DUE.same("SLOTS", x.count(8), slot + 1);
            DUE.yes("hold again", x.hold(slot));
            DUE.same("SLOTS", x.count(8), slot + 1);
            x.store(ONE, ONE, false);
            Due.feed(x, "!");
        }
        for (int slot = 2; slot >= 0; slot--) {
            DUE.yes("restore(" + slot + ")", x.restore(slot));
            DUE.same("STORE", x.count(10), slot);
            DUE.same("tape", x.count(6), slot);
        }
        DUE.yes("another in its place", x.hold(2));
        DUE.yes("restore(1)", x.restore(1));
        DUE.same("STORE", x.count(10), 1);
        DUE.yes("restore(2)", x.restore(2));
        DUE.same("STORE", x.count(10), 0);
        DUE.sentence("hold: the STORE that is NIL, the full tape, SIZE and WIDE, too");
        x.store(NIL, ONE, false);
        Due.feed(x, " ".repeat(2000));
        x.resize(3, 2);
        DUE.yes("hold", x.hold(0));
        int a = x.let(0, 0);
        x.clear();
        x.back(2000);
        x.resize(12, 0);
        DUE.yes("restore", x.restore(0));
        counts("as it was", x, 3, 2, 1, -2, 0, 1, 2000, 0, 3, -1000, 0);
        DUE.same("a", x.let(0, 0), a);
        DUE.same("the tape is full", x.feed(0, 0, 0, 0, 0), -1);
    }

    private static void restored() {
        DUE.sentence("restore: (it stays there; nothing can be undone then)");
        TaperedNumbers x = new TaperedNumbers();
        x.store(ONE, ONE, false);
        x.hold(1);
        store(x, 45, ONE, ONE, false);
        for (int i = 0; i < 3; i++) {
            DUE.yes("restore", x.restore(1));
            DUE.same("1", x.count(10), 1);
            DUE.same("no things", x.count(7), 0);
            DUE.no("undo", x.undo());
            DUE.same("1", x.count(10), 1);
            DUE.yes("a thing", x.store(ONE, ONE, false));
            DUE.yes("can be undone", x.undo());
            DUE.no("that alone", x.undo());
            DUE.yes("a thing", x.resize(9, 1));
        }
        DUE.sentence("restore: false, and nothing happens: no such one, it holds nothing");
        for (int slot : new int[] {0, 2, -1, 3, Integer.MIN_VALUE, Integer.MAX_VALUE, 257}) {
            DUE.no("restore(" + slot + ")", x.restore(slot));
            counts("nothing happens", x, 9, 1, 0, 1, 0, 0, 0, 1, 1, 0, 1);
        }
        DUE.yes("what can be undone still can", x.undo());
        DUE.same("SIZE", x.count(0), 8);
    }

    private static void bits() {
        DUE.sentence("bit: Of the STORE without its sign: whether 2 to the i (-100 .. 100) is in it; -2: NIL. NONE: no such i");
        TaperedNumbers x = new TaperedNumbers();
        x.resize(12, 2);
        for (int i = -100; i <= 100; i++) {
            DUE.same("bit(" + i + ") of 0", x.bit(i), 0);
        }
        for (int sign = 0; sign < 2; sign++) {
            // 2 to the 80, 2 to the -80 and 2 to the 0.
            x.store(2047, 2047, sign == 1);
            x.store(1, 1, sign == 1);
            x.store(1024, 1024, sign == 1);
            for (int i = -100; i <= 100; i++) {
                DUE.same("bit(" + i + ")", x.bit(i), i == 80 || i == -80 || i == 0 ? 1 : 0);
            }
            for (int i : new int[] {-101, 101, Integer.MIN_VALUE, Integer.MAX_VALUE, -176, 128, 80 + 256}) {
                DUE.same("bit(" + i + ")", x.bit(i), -1);
            }
            x.clear();
        }
        // 2 to the 80 less 2 to the -80: all bits from -80 to 79; without its sign below 0, too.
        for (int sign = 0; sign < 2; sign++) {
            x.store(2047, 2047, sign == 1);
            x.store(1, 1, sign == 0);
            for (int i = -100; i <= 100; i++) {
                DUE.same("bit(" + i + ")", x.bit(i), i >= -80 && i < 80 ? 1 : 0);
            }
            DUE.same("its highest", x.count(9), 79);
            DUE.same("its sign", x.count(3), 1 - 2 * sign);
            DUE.same("its ROW is that of 2 to the 80, beyond the greatest", x.stored(12, 2), sign == 0 ? 2047 : 2049);
            x.clear();
        }
        x.store(2048, 0, false);
        for (int i = -100; i <= 100; i++) {
            DUE.same("bit(" + i + ") of NIL", x.bit(i), -2);
        }
        DUE.same("bit(-101) of NIL", x.bit(-101), -1);
        DUE.same("bit(101) of NIL", x.bit(101), -1);
        DUE.sentence("STORE: held without loss, as many products as an object is used for");
        TaperedNumbers most = new TaperedNumbers();
        most.resize(12, 2);
        store(most, 500, 2047, 2049, false);
        DUE.same("500 times 2 to the 80", most.count(9), 88);
        int found = 0;
        for (int i = 0; i <= 9; i++) {
            found += most.bit(80 + i) << i;
        }
        DUE.same("500", found, 500);
        store(most, 500, 2047, 2049, true);
        DUE.same("and back", most.count(3), 0);
        store(most, 500, 1, 1, true);
        found = 0;
        for (int i = 0; i <= 9; i++) {
            found += most.bit(-80 + i) << i;
        }
        DUE.same("500 times 2 to the -80", found, 500);
    }

    private static void storedRounded() {
        DUE.sentence("stored: The STORE ROUNDED to SIZE n, WIDE w (NIL: NIL). NONE: no such ones");
        TaperedNumbers x = new TaperedNumbers();
        for (int n = 1; n <= 14; n++) {
            for (int w = -1; w <= 3; w++) {
                boolean fits = n >= 3 && n <= 12 && w >= 0 && w <= 2;
                x.clear();
                DUE.same("of 0", x.stored(n, w), fits ? 0 : -1);
                x.store(ONE, ONE, true);
                DUE.same("of -1", x.stored(n, w), fits ? (1 << n) - (1 << (n - 2)) : -1);
                x.store(NIL, ONE, true);
                DUE.same("of NIL", x.stored(n, w), fits ? 1 << (n - 1) : -1);
            }
        }
        x.clear();
        // One and a half step of SIZE 8 above 1, and the least there is more or less.
        x.resize(12, 2);
        int small = x.quotient(12, 2, 1, 16);
        int half = x.quotient(12, 2, 1, 2);
        x.store(1024, 1024, false);
        x.store(small, half, false);
        DUE.same("halfway by 8, 1: the even one", x.stored(8, 1), 64);
        x.store(1, 1, false);
        DUE.same("and 2 to the -80", x.stored(8, 1), 65);
        x.store(1, 1, true);
        x.store(1, 1, true);
        DUE.same("less 2 to the -80", x.stored(8, 1), 64);
        x.store(small, 1024, false);
        DUE.same("halfway again, less 2 to the -80", x.stored(8, 1), 65);
        x.store(1, 1, false);
        DUE.same("halfway: the even one", x.stored(8, 1), 66);
    }

    private static void countedNames() {
        DUE.sentence("count: 2 NAMES, 4 NAMES that are NIL (bits), 5 unlike ROWS of NAMES");
        for (int nils = 0; nils < 256; nils += 5) {
            StringBuilder text = new StringBuilder("size 8 1;");
            for (int i = 0; i < 8; i++) {
                text.append("let ").append((char) ('a' + i)).append((nils >> i & 1) == 1 ? " 1/0;" : " 1;");
            }
            TaperedNumbers x = object(text.toString());
            DUE.same("NAMES", x.count(2), 8);
            DUE.same("those that are NIL", x.count(4), nils);
            DUE.same("unlike ROWS", x.count(5), nils == 0 || nils == 255 ? 1 : 2);
        }
        for (int unlike = 1; unlike <= 8; unlike++) {
            StringBuilder text = new StringBuilder("size 8 1;");
            for (int i = 0; i < 8; i++) {
                text.append("let ").append((char) ('a' + i)).append(' ').append(i % unlike).append(';');
            }
            DUE.same("unlike ROWS", object(text.toString()).count(5), unlike);
        }
        TaperedNumbers none = object("size 8 1;");
        counts("no NAMES", none, 8, 1, 0, 0, 0, 0);
        TaperedNumbers few = object("size 8 1;let a 1/0;let b 1/0;let c 1/0;let d 1/0;");
        Due.read(few, "size 8 1;let a 1;");
        counts("one NAME", few, 8, 1, 1, 0, 0, 1);
        TaperedNumbers big = object("size 12 2;let a 9999;let b 8192;let c 2;");
        DUE.same("three unlike", big.count(5), 3);
        big.resize(3, 0);
        DUE.same("one is left", big.count(5), 1);
    }

    private static void countedStore() {
        DUE.sentence("count: 3 the STORE's sign (-2: NIL), 9 the greatest power of 2 in the STORE without its sign (-1000: 0, NIL)");
        TaperedNumbers x = new TaperedNumbers();
        DUE.same("0", x.count(9), -1000);
        x.store(HALF, ONE, true);
        DUE.same("-1/2: sign", x.count(3), -1);
        DUE.same("-1/2: power", x.count(9), -1);
        x.store(HALF, ONE, true);
        DUE.same("-1: power", x.count(9), 0);
        x.store(HALF, ONE, true);
        DUE.same("-3/2: power", x.count(9), 0);
        x.store(HALF, ONE, true);
        DUE.same("-2: power", x.count(9), 1);
        x.store(96, ONE, false);
        DUE.same("2: sign", x.count(3), 1);
        DUE.same("2: power", x.count(9), 1);
        x.store(80, ONE, true);
        DUE.same("0: sign", x.count(3), 0);
        DUE.same("0: power", x.count(9), -1000);
        x.store(NIL, ONE, true);
        DUE.same("NIL: sign", x.count(3), -2);
        DUE.same("NIL: power", x.count(9), -1000);
        // A borrow through all words, and back.
        x.clear();
        x.resize(12, 2);
        for (int i = 0; i < 4; i++) {
            x.store(2047, 2047, i % 2 == 0);
            x.store(1, 1, i % 2 == 1);
            DUE.same("power", x.count(9), i % 2 == 0 ? 79 : -1000);
            DUE.same("sign", x.count(3), i % 2 == 0 ? -1 : 0);
        }
    }

    /** Makes the store a whole number and some quarters, by powers of 2 alone. */
    private static TaperedNumbers whole(long quarters) {
        TaperedNumbers x = new TaperedNumbers();
        x.resize(12, 2);
        boolean below = quarters < 0;
        long left = Math.abs(quarters);
        int one = 1024;
        int quarter = x.quotient(12, 2, 1, 4);
        int row = quarter;
        for (int i = 0; i < 40 && left >> i != 0; i++) {
            if ((left >> i & 1) == 1) {
                x.store(row, one, below);
            }
            row = x.both(12, 2, row, row, 0);
        }
        return x;
    }

    private static void countedWhole() {
        DUE.sentence("count: 10 the WHOLE of the STORE (0 of NIL); of two alike near the even one");
        for (int quarters = -24; quarters <= 24; quarters++) {
            int due = Model.Frac.of(quarters, 4).nearest().intValueExact();
            DUE.same("WHOLE of " + quarters + " quarters", whole(quarters).count(10), due);
        }
        long bound = 2000000000L;
        DUE.sentence("count: 10 the WHOLE of the STORE: beyond -2000000000 .. 2000000000 that bound");
        long[] quarters = {4 * bound, 4 * bound + 1, 4 * bound + 2, 4 * bound + 3, 4 * bound + 4, 4 * bound - 1, 4 * bound - 2,
            4 * bound - 3, 4 * bound - 4, 4 * bound - 5, 4 * bound - 6, 4 * bound - 7, 4 * bound + 8, 1L << 33, (1L << 33) - 1, (1L << 32) - 1,
            (1L << 32) - 2, 1L << 32, (1L << 32) + 2, (1L << 32) + 3, 1L << 34, 1L << 35, 1L << 39};
        for (long one : quarters) {
            int due = (int) Model.Frac.of(one, 4).whole();
            DUE.same("WHOLE of " + one + " quarters", whole(one).count(10), due);
            DUE.same("WHOLE of -" + one + " quarters", whole(-one).count(10), -due);
        }
        TaperedNumbers x = whole(4 * bound - 2);
        DUE.same("halfway to the bound: the even one", x.count(10), 2000000000);
        x.store(1, 1, true);
        DUE.same("less 2 to the -80", x.count(10), 1999999999);
        TaperedNumbers half = whole(2);
        half.store(1, 1, false);
        DUE.same("a half and 2 to the -80", half.count(10), 1);
        half.store(1, 1, true);
        half.store(1, 1, true);
        DUE.same("a half less 2 to the -80", half.count(10), 0);
        half.store(2048, 1, true);
        DUE.same("NIL", half.count(10), 0);
    }

    private static void countedRest() {
        DUE.sentence("count: NONE for others (3, 9, 10 may be -1, too)");
        TaperedNumbers x = new TaperedNumbers();
        x.store(HALF, ONE, true);
        for (int what : new int[] {-1, -2, 11, 12, 256, Integer.MIN_VALUE, Integer.MAX_VALUE}) {
            DUE.same("count(" + what + ")", x.count(what), -1);
        }
        DUE.same("3", x.count(3), -1);
        DUE.same("9", x.count(9), -1);
        x.store(HALF, ONE, true);
        DUE.same("10", x.count(10), -1);
        DUE.sentence("count: 6 bytes on the tape, 7 things that can be undone, 8 SLOTS that hold something");
        DUE.same("6 of none", x.count(6), 0);
        x.feed(0, 0, 0, 0, 0);
        DUE.same("6", x.count(6), 20);
        DUE.same("7", x.count(7), 2);
        x.hold(2);
        DUE.same("8: how many, not which", x.count(8), 1);
        x.hold(0);
        DUE.same("8", x.count(8), 2);
    }
}
