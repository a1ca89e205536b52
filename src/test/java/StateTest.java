/** Promises 1, 6 to 9, 21, 24, 27 to 29: what an object is, and what is done to it by hand. */
public final class StateTest {
    private static final Due DUE = new Due();
    private static final String TEXT = "size 8 1;let a 3;let b a/7;let c a-b/0;let d 100*b;";

    public static void main(String[] args) {
        newObject();
        resizing();
        storing();
        nilStore();
        greatStore();
        behindTheHalf();
        undoing();
        slots();
        wrongInputs();
        DUE.end();
    }

    private static void counts(String call, TaperedNumbers x, int... want) {
        for (int i = 0; i < want.length; i++) {
            DUE.same(call + ": count(" + i + ")", x.count(i), want[i]);
        }
    }

    private static void newObject() {
        TaperedNumbers x = new TaperedNumbers();
        DUE.same("NONE", TaperedNumbers.NONE, -1);
        counts("new", x, 8, 1, 0, 0, 0, 0, 0, 0, 0, -1000, 0, -1);
        DUE.same("let of a new object", x.let(0, 0), -100000);
        DUE.same("place of a new object", x.place(), -1);
        DUE.no("undo of a new object", x.undo());
        DUE.no("clear of a new object", x.clear());
        for (int slot = -1; slot <= 3; slot++) {
            DUE.no("restore of a new object", x.restore(slot));
        }
    }

    private static void resizing() {
        TaperedNumbers x = new TaperedNumbers();
        DUE.no("both are so", x.resize(8, 1));
        DUE.yes("resize without NAMES", x.resize(8, 2));
        DUE.yes("resize without NAMES", x.resize(12, 2));
        counts("resized", x, 12, 2, 0, 0, 0, 0, 0, 2, 0, -1000, 0);
        DUE.yes("undo", x.undo());
        DUE.yes("undo", x.undo());
        counts("undone", x, 8, 1, 0, 0, 0, 0, 0, 0, 0, -1000, 0);
        Due.read(x, TEXT);
        int b = x.let(1, 0);
        DUE.yes("store", x.store(b, b, false));
        DUE.yes("resize", x.resize(4, 0));
        DUE.same("b is worked out anew", x.let(1, 0), x.both(4, 0, x.quotient(4, 0, 3, 1), x.quotient(4, 0, 7, 1), 3));
        DUE.same("the STORE stays", x.stored(12, 1), x.turned(12, 1, x.stored(12, 1), 12, 1));
        DUE.same("the STORE stays", x.stored(8, 1), x.both(8, 1, b, b, 2));
        DUE.same("a ROW of the new size", x.store(16, 4, false), false);
        DUE.yes("a ROW of the new size", x.store(15, 4, false));
        DUE.yes("undo of store", x.undo());
        DUE.yes("undo of resize", x.undo());
        DUE.same("b is as it was", x.let(1, 0), b);
        DUE.same("SIZE is as it was", x.count(0), 8);
    }

    private static void storing() {
        TaperedNumbers x = new TaperedNumbers();
        DUE.yes("0 times 0", x.store(0, 0, false));
        DUE.same("is done all the same", x.count(7), 1);
        DUE.no("the STORE is 0", x.clear());
        DUE.yes("1.5 times 1.5", x.store(72, 72, false));
        counts("2.25", x, 8, 1, 0, 1, 0, 0, 0, 2, 0, 1, 2);
        DUE.same("bit 1", x.bit(1), 1);
        DUE.same("bit 0", x.bit(0), 0);
        DUE.same("bit -2", x.bit(-2), 1);
        DUE.yes("less 4 times 1", x.store(96, 64, true));
        counts("-1.75", x, 8, 1, 0, -1, 0, 0, 0, 3, 0, 0, -2);
        DUE.same("bits without sign", x.bit(0) * 100 + x.bit(-1) * 10 + x.bit(-2), 111);
        DUE.same("stored", x.stored(8, 1), 256 - 64 - 12);
        DUE.yes("back to 0", x.store(256 - 76, 64, true));
        counts("0", x, 8, 1, 0, 0, 0, 0, 0, 4, 0, -1000, 0);
        DUE.no("the STORE is 0", x.clear());
        DUE.yes("undo", x.undo());
        DUE.yes("clear", x.clear());
        DUE.same("0", x.stored(8, 1), 0);
        DUE.yes("undo of clear", x.undo());
        DUE.same("-1.75", x.stored(8, 1), 256 - 64 - 12);
        DUE.same("WHOLE of a half", halves(1), 0);
        DUE.same("WHOLE of one and a half", halves(3), 2);
        DUE.same("WHOLE of two and a half", halves(5), 2);
    }

    private static int halves(int halves) {
        TaperedNumbers x = new TaperedNumbers();
        for (int i = 0; i < halves; i++) {
            x.store(64, 48, false);
        }
        return x.count(10);
    }

    private static void nilStore() {
        TaperedNumbers x = new TaperedNumbers();
        x.store(64, 64, false);
        DUE.yes("NIL comes", x.store(0, 128, true));
        counts("NIL", x, 8, 1, 0, -2, 0, 0, 0, 2, 0, -1000, 0);
        DUE.same("bit of NIL", x.bit(0), -2);
        DUE.same("no bit of NIL", x.bit(101), -1);
        DUE.same("stored of NIL", x.stored(5, 1), 16);
        DUE.yes("NIL stays", x.store(64, 64, false));
        DUE.same("NIL stays", x.count(3), -2);
        DUE.yes("undo", x.undo());
        DUE.same("NIL stays", x.count(3), -2);
        DUE.yes("undo of NIL", x.undo());
        DUE.same("1 again", x.count(10), 1);
        x.store(128, 128, false);
        DUE.yes("NIL is cleared", x.clear());
        DUE.same("0", x.count(3), 0);
    }

    private static void greatStore() {
        TaperedNumbers x = new TaperedNumbers();
        x.resize(12, 2);
        for (int i = 0; i < 40; i++) {
            x.store(2047, 2047, false);
        }
        DUE.same("40 times 2 to the 80", x.count(9), 85);
        DUE.same("bound", x.count(10), 2000000000);
        x.store(1, 1, false);
        DUE.same("the lowest bit", x.bit(-80), 1);
        DUE.same("bit -100", x.bit(-100), 0);
        DUE.same("bit 100", x.bit(100), 0);
        DUE.same("bit 85", x.bit(85), 1);
        DUE.same("bit 83", x.bit(83), 1);
        for (int i = 0; i < 40; i++) {
            x.store(2047, 2047, true);
        }
        DUE.same("only the lowest is left", x.count(9), -80);
        DUE.same("its ROW", x.stored(12, 2), 1);
        x.store(1, 1, true);
        x.store(1, 1, true);
        DUE.same("below 0", x.count(3), -1);
        DUE.same("its ROW", x.stored(12, 2), 4095);
        DUE.same("its lowest bit", x.bit(-80), 1);
        DUE.yes("undo", x.undo());
        DUE.same("0 again", x.count(3), 0);
        DUE.same("without the lowest bit", x.bit(-80), 0);
        x.store(1, 1, true);
        x.store(2047, 2049, false);
        DUE.same("bound below", x.count(10), -2000000000);
    }

    /** Halfway between two ROWS the least there is decides, far behind. */
    private static void behindTheHalf() {
        TaperedNumbers x = new TaperedNumbers();
        x.resize(12, 2);
        int by16 = x.quotient(12, 2, 1, 16);
        x.store(1024, 1024, false);
        x.store(by16, by16, false);
        DUE.same("1 and a half step: the even one", x.stored(12, 2), 1024);
        x.store(1, 1, false);
        DUE.same("and the least", x.stored(12, 2), 1025);
        x.store(1, 1, true);
        x.store(1, 1, true);
        DUE.same("less the least", x.stored(12, 2), 1024);
        x.clear();
        int half = x.quotient(12, 2, 1, 2);
        x.store(half, 1024, false);
        DUE.same("WHOLE of a half", x.count(10), 0);
        x.store(1, 1, false);
        DUE.same("WHOLE of a half and the least", x.count(10), 1);
        DUE.same("its highest bit", x.count(9), -1);
        int great = x.quotient(12, 2, 131072, 1);
        x.store(great, x.quotient(12, 2, 8192, 1), false);
        DUE.same("WHOLE of 2 to the 30 and a half and the least", x.count(10), (1 << 30) + 1);
        x.store(great, x.quotient(12, 2, 8192, 1), false);
        DUE.same("bound", x.count(10), 2000000000);
    }

    private static void undoing() {
        TaperedNumbers x = new TaperedNumbers();
        for (int i = 0; i < 45; i++) {
            x.store(64, 64, false);
        }
        DUE.same("the last 40", x.count(7), 40);
        for (int i = 0; i < 40; i++) {
            DUE.yes("undo", x.undo());
        }
        DUE.no("the 41st", x.undo());
        DUE.same("5 are left", x.count(10), 5);
        x.clear();
        x.resize(5, 0);
        Due.feed(x, "abc");
        DUE.yes("undo", x.undo());
        DUE.same("the tape is nothing by hand", x.count(6), 3);
        x.back(3);
        DUE.yes("undo", x.undo());
        DUE.no("no more", x.undo());
        counts("undone", x, 8, 1, 0, 1, 0, 0, 0, 0, 0, 2, 5);
    }

    private static void slots() {
        TaperedNumbers x = new TaperedNumbers();
        Due.read(x, TEXT);
        x.store(64, 64, false);
        Due.feed(x, "size 3");
        DUE.yes("hold", x.hold(0));
        DUE.yes("hold", x.hold(2));
        DUE.same("two are full", x.count(8), 2);
        DUE.same("hold is nothing by hand", x.count(7), 1);
        int d = x.let(3, 0);
        x.resize(6, 2);
        x.store(16, 16, false);
        x.back(6);
        DUE.yes("hold", x.hold(2));
        DUE.no("nothing in it", x.restore(1));
        Due.feed(x, "let");
        DUE.yes("restore", x.restore(0));
        counts("restored", x, 8, 1, 4, 1, 4, 4, 6, 0, 2, 0, 1);
        DUE.same("a NAME is as it was", x.let(3, 0), d);
        DUE.no("nothing can be undone", x.undo());
        DUE.yes("it stays there", x.restore(0));
        Due.feed(x, " 0");
        DUE.same("the tape is as it was", x.read(), 1);
        DUE.same("up to its end", x.place(), 8);
        DUE.yes("restore", x.restore(0));
        DUE.same("place() is the latest read()'s", x.place(), 8);
        Due.feed(x, "  0");
        DUE.same("the tape is as it was", x.count(6), 9);
        DUE.yes("the other", x.restore(2));
        counts("the other", x, 6, 2, 4, 1, 4, 4, 0, 0, 2, 1, 2);
        DUE.same("a text with a fault", Due.read(x, "size"), 1);
        DUE.same("leaves them", x.count(8), 2);
        x.store(16, 16, false);
        DUE.same("a text", Due.read(x, "size 5 1;"), 0);
        counts("a text", x, 5, 1, 0, 0, 0, 0, 0, 0, 0, -1000, 0);
        DUE.no("nothing in it", x.restore(0));
        DUE.no("nothing to undo", x.undo());
    }

    private static void wrongInputs() {
        TaperedNumbers x = new TaperedNumbers();
        x.store(72, 64, false);
        for (int wrong : new int[] {-1, -2147483648, 2147483647, 256}) {
            DUE.no("store", x.store(wrong, 0, false));
            DUE.no("store", x.store(0, wrong, true));
            DUE.no("resize", x.resize(wrong, 1));
            DUE.no("resize", x.resize(8, wrong));
            DUE.no("hold", x.hold(wrong));
            DUE.no("restore", x.restore(wrong));
            DUE.same("stored", x.stored(wrong, 1), -1);
            DUE.same("stored", x.stored(8, wrong), -1);
            DUE.same("bit", x.bit(wrong == -1 ? -101 : wrong), -1);
            DUE.same("count", x.count(wrong), -1);
        }
        DUE.no("hold", x.hold(3));
        DUE.no("restore", x.restore(3));
        DUE.no("resize", x.resize(2, 0));
        DUE.no("resize", x.resize(13, 0));
        DUE.no("resize", x.resize(8, 3));
        DUE.same("stored", x.stored(2, 0), -1);
        DUE.same("stored", x.stored(13, 0), -1);
        DUE.same("stored", x.stored(3, 3), -1);
        DUE.same("bit", x.bit(101), -1);
        counts("nothing happened", x, 8, 1, 0, 1, 0, 0, 0, 1, 0, 0, 2, -1, -1);
    }
}
