import java.math.BigInteger;
import java.util.ArrayList;
import java.util.Arrays;
import java.util.List;
import java.util.Random;

/** Runs of calls by chance against plain lists: what each call leaves for the next, the past and the slots when full, too. */
public final class RunTest {
    private static final Due DUE = new Due();
    /** A fixed seed: each run asks the same. */
    private static final Random RANDOM = new Random(20261121);
    private static final String[] PIECES = {"size 8 1;", "size 12 2;", "size 3 0;", " let a 3;", "let b 1/3;", "let c sum(b,b,-a,1);",
        "let d 1/0;", "let a root(2);", "let e", "!", "   ", "(", "9999"};
    private static final String[] TEXTS = {"size 8 1;let a 3;let b a/7;let c a-b/0;let d 100*b;", "size 12 0;", "size 5 2;let x 9999;let y -x;",
        "size 10 1;let a 1/3;let b sum(a,3,-1,1);let c root(b);let d c*c-b;let e a;let f 0;let g f/f;let h 5;"};

    public static void main(String[] args) {
        for (int i = 0; i < 150; i++) {
            new RunTest(i % 3).go();
        }
        DUE.end();
    }

    private record Plain(int n, int w, Model.Frac sum, String tape) {
        Plain of(Model.Frac other) {
            return new Plain(n, w, other, tape);
        }

        Plain of(String other) {
            return new Plain(n, w, sum, other);
        }
    }

    private static final Model.Frac NOUGHT = Model.Frac.of(0, 1);

    /** In some runs hardly anything is read or restored: there the past fills, again and again. */
    private final boolean fills;
    private final TaperedNumbers x = new TaperedNumbers();
    private final List<Plain> past = new ArrayList<>();
    private final Plain[] slots = new Plain[3];
    private String text = "size 8 1;";
    private int place = -1;
    private Plain now = new Plain(8, 1, NOUGHT, "");

    private RunTest(int kind) {
        fills = kind == 0;
    }

    private void go() {
        int steps = fills ? 160 : 80;
        for (int i = 0; i < steps; i++) {
            int kind = RANDOM.nextInt(fills ? 500 : 40);
            if (kind < 6) {
                tapeOrSlot(kind);
            } else {
                byHand(kind % 16);
            }
            check();
        }
    }

    // ---- by hand

    private void done(Plain next) {
        past.add(now);
        if (past.size() > 40) {
            past.remove(0);
        }
        now = next;
    }

    private void byHand(int kind) {
        if (kind < 9) {
            store(RANDOM.nextInt(1 << now.n), RANDOM.nextInt(1 << now.n), RANDOM.nextBoolean());
        } else if (kind == 9) {
            boolean can = now.sum == null || now.sum.sign() != 0;
            DUE.same("clear", x.clear(), can);
            if (can) {
                done(now.of(NOUGHT));
            }
        } else if (kind == 10) {
            resize(2 + RANDOM.nextInt(12), RANDOM.nextInt(4));
        } else if (kind <= 13) {
            DUE.same("undo", x.undo(), !past.isEmpty());
            if (!past.isEmpty()) {
                now = past.remove(past.size() - 1).of(now.tape);
            }
        } else {
            int slot = RANDOM.nextInt(5) - 1;
            boolean is = slot >= 0 && slot < 3;
            DUE.same("hold", x.hold(slot), is);
            if (is) {
                slots[slot] = now;
            }
        }
    }

    private void store(int a, int b, boolean away) {
        // NIL hides all that comes behind: it comes seldom.
        int one = a == Model.nil(now.n) && RANDOM.nextInt(4) > 0 ? 1 : a;
        DUE.yes("store", x.store(one, b, away));
        Model.Frac product = Model.exact(now.n, now.w, one, b, 2);
        Model.Frac sum = now.sum == null || product == null ? null : away ? now.sum.minus(product) : now.sum.plus(product);
        done(now.of(sum == null ? null : reduced(sum)));
    }

    private static Model.Frac reduced(Model.Frac sum) {
        BigInteger by = sum.over.gcd(sum.below);
        return new Model.Frac(sum.over.divide(by), sum.below.divide(by));
    }

    private void resize(int n, int w) {
        boolean can = Model.isSize(n, w) && (n != now.n || w != now.w);
        DUE.same("resize", x.resize(n, w), can);
        if (can) {
            done(new Plain(n, w, now.sum, now.tape));
        }
    }

    // ---- the tape and the slots

    private void tapeOrSlot(int kind) {
        if (kind <= 1) {
            feed(PIECES[RANDOM.nextInt(PIECES.length)]);
        } else if (kind == 2) {
            int n = RANDOM.nextInt(30) - 2;
            boolean can = n >= 0 && n <= now.tape.length();
            DUE.same("back(" + n + ")", x.back(n), can ? now.tape.length() - n : -1);
            now = can ? now.of(now.tape.substring(0, now.tape.length() - n)) : now;
        } else if (kind == 3) {
            feed(TEXTS[RANDOM.nextInt(TEXTS.length)]);
            read();
        } else {
            restore(RANDOM.nextInt(5) - 1);
            if (kind == 5 && RANDOM.nextInt(3) == 0) {
                read();
            }
        }
    }

    private void feed(String piece) {
        if (now.tape.length() + piece.length() + 20 < 2000) {
            DUE.same("feed", Due.feed(x, piece), now.tape.length() + piece.length());
            now = now.of(now.tape + piece);
        }
    }

    private void read() {
        int[] due = TextModel.fault(now.tape);
        DUE.same("read of " + now.tape, x.read(), due[0]);
        place = due[1];
        if (due[0] != 0) {
            now = now.of("");
            return;
        }
        text = now.tape;
        String[] parts = text.strip().split("[^0-9]+");
        now = new Plain(Integer.parseInt(parts[1]), Integer.parseInt(parts[2]), NOUGHT, "");
        past.clear();
        Arrays.fill(slots, null);
    }

    private void restore(int slot) {
        boolean full = slot >= 0 && slot < 3 && slots[slot] != null;
        DUE.same("restore", x.restore(slot), full);
        if (full) {
            now = slots[slot];
            past.clear();
        }
    }

    // ---- what is told of it

    private void check() {
        boolean nil = now.sum == null;
        boolean none = nil || now.sum.sign() == 0;
        int power = none ? -1000 : now.sum.over.abs().bitLength() - now.sum.below.bitLength();
        int full = (int) Arrays.stream(slots).filter(s -> s != null).count();
        int[] rows = TextModel.rows(text, now.n, now.w);
        int nils = 0;
        for (int i = 0; i < 8; i++) {
            DUE.same("NAME " + i, x.let(i, 0), i < rows.length ? rows[i] : -100000);
            nils |= i < rows.length && rows[i] == Model.nil(now.n) ? 1 << i : 0;
        }
        int unlike = (int) Arrays.stream(rows).distinct().count();
        int[] counts = {now.n, now.w, rows.length, nil ? -2 : now.sum.sign(), nils, unlike, now.tape.length(), past.size(), full, power,
            nil ? 0 : (int) now.sum.whole()};
        for (int what = 0; what < counts.length; what++) {
            DUE.same("count(" + what + ")", x.count(what), counts[what]);
        }
        DUE.same("place", x.place(), place);
        int i = RANDOM.nextInt(203) - 101;
        int bit = nil ? -2 : now.sum.bare().times(Model.Frac.powerOf2(-i)).floor().testBit(0) ? 1 : 0;
        DUE.same("bit(" + i + ")", x.bit(i), Math.abs(i) > 100 ? -1 : bit);
        int n = 3 + RANDOM.nextInt(10);
        int w = RANDOM.nextInt(3);
        DUE.same("stored(" + n + "," + w + ")", x.stored(n, w), Model.rounded(n, w, now.sum));
    }
}
