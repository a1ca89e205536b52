import com.sun.management.ThreadMXBean;
import java.lang.management.ManagementFactory;
import java.util.Random;

/** Whatever is called, with whatever, nothing throws, the same calls answer the same, and no call makes objects. */
public final class AnyCallTest {
    private static final Due DUE = new Due();
    private static final int[] FAR = {-2147483648, 2147483647, -1, 0, 1, 2, 3, 12, 13, 31, 32, 100, -100, 4095, 4096, 1000000};
    private static final String[] PIECES = {"size 8 1;", "size 12 2;", "let a 3;", "let b a/7;", "let c sum(a,b,a,a);", "let d root(c)-9;",
        "let", "(", ")", "x", "99999", " "};

    public static void main(String[] args) {
        for (int seed = 0; seed < 400; seed++) {
            TaperedNumbers x = new TaperedNumbers();
            TaperedNumbers y = new TaperedNumbers();
            Random one = new Random(seed);
            Random other = new Random(seed);
            for (int i = 0; i < 700; i++) {
                int kind = one.nextInt(30);
                DUE.same("seed " + seed + " call " + i + " of kind " + kind, call(x, one, kind), call(y, other, other.nextInt(30)));
            }
        }
        noObjects();
        DUE.end();
    }

    private static int any(Random random) {
        int kind = random.nextInt(8);
        return kind == 0 ? FAR[random.nextInt(FAR.length)] : kind == 1 ? random.nextInt() : random.nextInt(kind < 5 ? 13 : 300);
    }

    private static int size(Random random) {
        return random.nextInt(10) == 0 ? any(random) : 3 + random.nextInt(10);
    }

    private static int wide(Random random) {
        return random.nextInt(10) == 0 ? any(random) : random.nextInt(3);
    }

    private static long call(TaperedNumbers x, Random r, int kind) {
        int n = size(r);
        int w = wide(r);
        int a = any(r);
        int b = any(r);
        int c = any(r);
        return switch (kind) {
            case 0 -> x.feed(a, b, c, n, w);
            case 1 -> x.back(a);
            case 2 -> x.read();
            case 3 -> x.place();
            case 4 -> x.resize(n, w) ? 1 : 0;
            case 5 -> x.store(a, b, c % 2 == 0) ? 1 : 0;
            case 6 -> r.nextInt(9) == 0 && x.clear() ? 1 : 0;
            case 7 -> x.undo() ? 1 : 0;
            case 8 -> x.row(n, w, a, b);
            case 9 -> x.both(n, w, a, b, c % 5);
            case 10 -> x.off(n, w, a, b, c % 5);
            case 11 -> x.root(n, w, a);
            case 12 -> x.turned(n, w, a, size(r), wide(r));
            case 13 -> x.quotient(n, w, a, b);
            case 14 -> x.order(n, w, a, b);
            case 15 -> x.between(n, w, a, b);
            case 16 -> x.fused(n, w, a, b, c);
            case 17 -> x.written(n, w, a, b);
            case 18 -> x.steps(n, w, a, b, c % 4);
            case 19 -> x.bit(a);
            case 20 -> x.raised(n, w, a, b);
            case 21 -> x.near(n, w, a, b, c % 3);
            case 22 -> x.stored(n, w);
            case 23 -> x.pairs(n, w, a % 4);
            case 24 -> x.let(a % 10, b % 5);
            case 25 -> x.hold(a % 4) ? 1 : 0;
            case 26 -> x.restore(a % 4) ? 1 : 0;
            case 27 -> x.count(a % 13);
            default -> Due.feed(x, PIECES[r.nextInt(PIECES.length)]);
        };
    }

    /** The dearest calls, as many as an object is used for: the room that they share is small. */
    private static void noObjects() {
        ThreadMXBean bean = (ThreadMXBean) ManagementFactory.getThreadMXBean();
        TaperedNumbers x = new TaperedNumbers();
        Random random = new Random(7);
        long thread = Thread.currentThread().getId();
        dearest(x, random);
        long before = bean.getThreadAllocatedBytes(thread);
        for (int i = 0; i < 40; i++) {
            dearest(x, random);
        }
        long made = bean.getThreadAllocatedBytes(thread) - before;
        DUE.yes("bytes made: " + made, made < 4096);
    }

    private static void dearest(TaperedNumbers x, Random random) {
        int a = random.nextInt(4096);
        x.feed(0x73697a65, 0x20382031, 0x3b6c6574, 0x20612033, 0x2f373b20);
        x.hold(0);
        x.read();
        x.resize(12, 2);
        x.store(a, 4095 - a, false);
        x.undo();
        x.hold(1);
        x.restore(1);
        x.steps(12, 2, a, 4095 - a, 0);
        x.near(12, 2, a, 1000, 0);
        x.pairs(6, 2, 0);
        x.raised(12, 2, a, 50);
        x.written(12, 2, a, 0);
        x.stored(12, 2);
    }
}
