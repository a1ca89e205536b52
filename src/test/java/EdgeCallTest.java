import java.util.ArrayList;
import java.util.Arrays;
import java.util.List;
import java.util.function.Consumer;
import java.util.function.Predicate;
import java.util.function.ToLongFunction;

/**
 * The edges of each call: each argument's last value that is allowed and the first that is not, what a
 * refused call answers, and that nothing happens then, in whatever state the object is.
 */
public final class EdgeCallTest {
    private static final Due DUE = new Due();
    private static final int LEAST = Integer.MIN_VALUE;
    private static final int MOST = Integer.MAX_VALUE;
    private static final long LINE = -1000000000000000L;

    public static void main(String[] args) {
        arguments();
        noneAheadOfOthers();
        nothingHappens();
        askingChangesNothing();
        calls512();
        DUE.end();
    }

    // ---- each argument's edges

    /** What an argument is: where it ends may hang on the size that stands ahead of it. */
    private enum Kind {
        SIZE, WIDE, ROW, ANY
    }

    /** The usual one is what stands there while another argument is tried. */
    private record Argument(Kind kind, int least, int most, int usual) {
        static Argument of(int least, int most) {
            return new Argument(Kind.ANY, least, most, Math.max(0, least));
        }

        int usualOf(int n, int w) {
            return kind == Kind.SIZE ? n : kind == Kind.WIDE ? w : usual;
        }

        int mostOf(int n) {
            return kind == Kind.ROW ? (1 << n) - 1 : most;
        }
    }

    private interface Call {
        long of(TaperedNumbers x, int[] a);
    }

    private record Method(String sentence, long refused, Call call, Argument... arguments) {
    }

    private static final Argument N = new Argument(Kind.SIZE, 3, 12, 0);
    private static final Argument W = new Argument(Kind.WIDE, 0, 2, 0);
    private static final Argument A = new Argument(Kind.ROW, 0, 0, 1);
    /** With 0 nothing is rounded: off() answers 0 or -2, never what could be NONE. */
    private static final Argument NOUGHT = new Argument(Kind.ROW, 0, 0, 0);

    private static List<Method> methods() {
        Argument kinds = Argument.of(0, 3);
        Argument parts = Argument.of(-1000000, 1000000);
        return List.of(
            new Method("row: -100000: no such ones", -100000, (x, a) -> x.row(a[0], a[1], a[2], a[3]), N, W, A, Argument.of(0, 11)),
            new Method("both: NONE: no such ones", -1, (x, a) -> x.both(a[0], a[1], a[2], a[3], a[4]), N, W, A, A, kinds),
            new Method("off: NONE: no such ones", -1, (x, a) -> x.off(a[0], a[1], a[2], a[3], a[4]), N, W, NOUGHT, NOUGHT, kinds),
            new Method("root: NONE: no such ROW", -1, (x, a) -> x.root(a[0], a[1], a[2]), N, W, A),
            new Method("turned: NONE: no such ones", -1, (x, a) -> x.turned(a[0], a[1], a[2], a[3], a[4]), N, W, A, N, W),
            new Method("quotient: NONE: no such ones", -1, (x, a) -> x.quotient(a[0], a[1], a[2], a[3]), N, W, parts, parts),
            new Method("order: -2: no such ones", -2, (x, a) -> x.order(a[0], a[1], a[2], a[3]), N, W, A, A),
            new Method("between: NONE: no such ones", -1, (x, a) -> x.between(a[0], a[1], a[2], a[3]), N, W, A, A),
            new Method("fused: NONE: no such ones", -1, (x, a) -> x.fused(a[0], a[1], a[2], a[3], a[4]), N, W, A, A, A),
            new Method("written: NONE: no such ones", -1, (x, a) -> x.written(a[0], a[1], a[2], a[3]), N, W, NOUGHT, Argument.of(-1, 0)),
            new Method("steps: NONE: no such ones", -1, (x, a) -> x.steps(a[0], a[1], a[2], a[3], a[4]), N, W, A, A, Argument.of(0, 2)),
            new Method("bit: NONE: no such i", -1, (x, a) -> x.bit(a[0]), Argument.of(-100, 100)),
            new Method("raised: NONE: no such ones", -1, (x, a) -> x.raised(a[0], a[1], a[2], a[3]), N, W, A, Argument.of(0, 50)),
            new Method("near: -1000000000000000: no such ones", LINE, (x, a) -> x.near(a[0], a[1], a[2], a[3], a[4]), N, W, A,
                Argument.of(1, 1000), Argument.of(0, 1)),
            new Method("stored: NONE", -1, (x, a) -> x.stored(a[0], a[1]), N, W),
            new Method("pairs: NONE: no such ones", -1, (x, a) -> x.pairs(a[0], a[1], a[2]), N, W, Argument.of(0, 2)),
            new Method("let: -100000: no such ones", -100000, (x, a) -> x.let(a[0], a[1]), Argument.of(0, 7), Argument.of(0, 3)),
            new Method("count: NONE for others", -1, (x, a) -> x.count(a[0]), Argument.of(0, 10)),
            new Method("hold: false: no such one", 0, (x, a) -> x.hold(a[0]) ? 1 : 0, Argument.of(0, 2)),
            new Method("restore: false: no such one", 0, (x, a) -> x.restore(a[0]) ? 1 : 0, Argument.of(0, 2)));
    }

    private static void arguments() {
        for (Method method : methods()) {
            DUE.sentence(method.sentence());
            for (int n = 3; n <= 12; n++) {
                for (int w = 0; w <= 2; w++) {
                    arguments(method, n, w);
                }
            }
        }
    }

    /** An object whose names, slots and store hold something, so that no answer is that of a refused call. */
    private static TaperedNumbers holding() {
        TaperedNumbers x = new TaperedNumbers();
        Due.read(x, "size 8 1;let a 1;let b 2;let c 3;let d 4;let e 5;let f 6;let g 7;let h 8;");
        for (int slot = 0; slot < 3; slot++) {
            x.hold(slot);
        }
        x.store(64, 64, false);
        return x;
    }

    private static void arguments(Method method, int n, int w) {
        Argument[] arguments = method.arguments();
        TaperedNumbers x = holding();
        int[] fit = new int[arguments.length];
        for (int i = 0; i < fit.length; i++) {
            fit[i] = arguments[i].usualOf(n, w);
        }
        for (int i = 0; i < fit.length; i++) {
            int least = arguments[i].least();
            int most = arguments[i].mostOf(n);
            for (int fits : new int[] {least, Math.min(least + 1, most), Math.max(most - 1, least), most}) {
                DUE.no(told(method, fit, i, fits), method.call().of(x, with(fit, i, fits)) == method.refused());
            }
            for (int wrong : new int[] {least - 1, most + 1, LEAST, MOST, least - 256, most + 65536}) {
                DUE.same(told(method, fit, i, wrong), method.call().of(x, with(fit, i, wrong)), method.refused());
            }
        }
    }

    private static int[] with(int[] fit, int i, int value) {
        int[] all = fit.clone();
        all[i] = value;
        return all;
    }

    private static String told(Method method, int[] fit, int i, int value) {
        return method.sentence() + " " + Arrays.toString(with(fit, i, value)) + " argument " + i;
    }

    // ---- NONE ahead of -2

    private static void noneAheadOfOthers() {
        DUE.sentence("Where NONE and -2 could both be told, it is NONE");
        TaperedNumbers x = new TaperedNumbers();
        for (int what : new int[] {-1, 4, LEAST, MOST}) {
            DUE.same("off() of NIL by no such what", x.off(8, 1, 128, 64, what), -1);
            DUE.same("pairs() of 7 by no such what", x.pairs(7, 1, what == 4 ? 3 : what), -1);
        }
        DUE.same("off() by 0 of no such ROW", x.off(8, 1, 256, 0, 3), -1);
        DUE.same("pairs() of no such SIZE", x.pairs(13, 1, 0), -1);
        DUE.same("pairs() of no such SIZE", x.pairs(MOST, 1, 0), -1);
        DUE.same("pairs() of no such WIDE", x.pairs(12, 3, 0), -1);
        DUE.same("pairs() of no such WIDE", x.pairs(7, -1, 0), -1);
        x.store(128, 64, false);
        DUE.same("bit(100) of NIL", x.bit(100), -2);
        DUE.same("bit(-100) of NIL", x.bit(-100), -2);
        DUE.same("bit(101) of NIL", x.bit(101), -1);
        DUE.same("bit(-101) of NIL", x.bit(-101), -1);
        DUE.same("stored() of NIL, no such SIZE", x.stored(13, 1), -1);
        DUE.same("count(3) of NIL", x.count(3), -2);
        DUE.same("count(11) of NIL", x.count(11), -1);
        DUE.sentence("row: -100000: no such ones, ahead of -2: none");
        DUE.same("row() above the greatest by no such WIDE", x.row(8, 3, 127, 10), -100000);
        DUE.same("row() below the least by no such SIZE", x.row(13, 1, 129, 11), -100000);
        DUE.sentence("let: -100000: no such ones, ahead of -2 of NIL");
        Due.read(x, "size 8 1;let a 1/0;");
        for (int what = 1; what <= 3; what++) {
            DUE.same("let(0," + what + ") of NIL", x.let(0, what), -2);
            DUE.same("let(1," + what + ")", x.let(1, what), -100000);
        }
        DUE.same("let(0,4) of NIL", x.let(0, 4), -100000);
        DUE.same("let(0,-1) of NIL", x.let(0, -1), -100000);
        DUE.sentence("quotient: NONE: no such ones, ahead of NIL with b 0");
        DUE.same("quotient(8,1,1000001,0)", x.quotient(8, 1, 1000001, 0), -1);
        DUE.same("quotient(8,1,-1000001,0)", x.quotient(8, 1, -1000001, 0), -1);
        DUE.same("quotient(8,1,1000000,0)", x.quotient(8, 1, 1000000, 0), 128);
        DUE.same("quotient(8,1,-1000000,0)", x.quotient(8, 1, -1000000, 0), 128);
    }

    // ---- refused calls

    private record State(String name, Consumer<TaperedNumbers> way) {
    }

    private static final String LINES = "size 8 1;let a 3;let b a/7;let c a-b/0;let d 100*b;";

    private static List<State> states() {
        return List.of(
            new State("a new object", x -> { }),
            new State("a text", EdgeCallTest::middle),
            new State("a STORE that is NIL", x -> {
                x.store(64, 64, false);
                x.store(128, 64, false);
                Due.feed(x, "size 3 2;");
            }),
            new State("a STORE that came to 0", x -> {
                x.store(64, 64, false);
                x.store(64, 64, true);
            }),
            new State("a full tape", x -> {
                Due.read(x, LINES);
                Due.feed(x, LINES + " ".repeat(2000 - LINES.length()));
            }),
            new State("a tape with room for 19 more", x -> Due.feed(x, LINES + " ".repeat(1981 - LINES.length()))),
            new State("a full past", x -> {
                for (int i = 0; i < 45; i++) {
                    x.store(64 + i, 64 - i, i % 3 == 0);
                }
            }),
            new State("full SLOTS", x -> {
                middle(x);
                x.hold(1);
                x.store(16, 16, true);
                x.hold(2);
                x.restore(0);
            }),
            new State("a FAULT", x -> {
                middle(x);
                Due.read(x, "size 8 1;let a b;");
                Due.feed(x, "size 8 1; let");
            }),
            new State("the least SIZE", x -> x.resize(3, 0)),
            new State("the greatest SIZE", x -> x.resize(12, 2)));
    }

    private static void middle(TaperedNumbers x) {
        Due.read(x, LINES);
        x.store(64, 72, false);
        x.resize(5, 2);
        Due.feed(x, "size 9 0;let");
        x.hold(0);
        x.store(3, 30, true);
        Due.feed(x, " a 7;");
    }

    private record Refused(String sentence, long due, Predicate<TaperedNumbers> when, ToLongFunction<TaperedNumbers> call) {
    }

    private static List<Refused> refused() {
        List<Refused> all = new ArrayList<>();
        all.add(new Refused("feed: NONE, and nothing comes, if it would have more than 2,000", -1, x -> x.count(6) > 1980,
            x -> x.feed(0x73697a65, 0x20203320, 0x20302020, 0x3b202020, 0)));
        all.add(new Refused("back: NONE, and nothing goes, if it has not so many", -1, x -> true, x -> x.back(x.count(6) + 1)));
        all.add(new Refused("resize: false, and nothing happens: both are so", 0, x -> true,
            x -> x.resize(x.count(0), x.count(1)) ? 1 : 0));
        all.add(new Refused("clear: false: it is 0", 0, x -> x.count(3) == 0, x -> x.clear() ? 1 : 0));
        all.add(new Refused("undo: false: there is none", 0, x -> x.count(7) == 0, x -> x.undo() ? 1 : 0));
        for (int slot = 0; slot < 3; slot++) {
            int one = slot;
            all.add(new Refused("restore: false, and nothing happens: it holds nothing", 0, x -> x.count(8) == 0,
                x -> x.restore(one) ? 1 : 0));
        }
        for (int far : new int[] {-1, LEAST, MOST, -2001, 2001, 3, 13}) {
            refusedBy(all, far);
        }
        return all;
    }

    private static void refusedBy(List<Refused> all, int far) {
        boolean isCount = far >= 0 && far <= 2000;
        if (!isCount) {
            all.add(new Refused("back: NONE, and nothing goes, if n is below 0", -1, x -> true, x -> x.back(far)));
        }
        if (far != 3) {
            all.add(new Refused("resize: false, and nothing happens: no such SIZE", 0, x -> true, x -> x.resize(far, 1) ? 1 : 0));
        }
        all.add(new Refused("resize: false, and nothing happens: no such WIDE", 0, x -> true, x -> x.resize(8, far) ? 1 : 0));
        for (boolean away : new boolean[] {false, true}) {
            String sentence = "store: false, and nothing happens: no such ROWS";
            if (!isCount) {
                ToLongFunction<TaperedNumbers> beyond = x -> far == 2001 ? 1 << x.count(0) : far;
                all.add(new Refused(sentence, 0, x -> true, x -> x.store((int) beyond.applyAsLong(x), 1, away) ? 1 : 0));
                all.add(new Refused(sentence, 0, x -> true, x -> x.store(1, (int) beyond.applyAsLong(x), away) ? 1 : 0));
                all.add(new Refused(sentence, 0, x -> true,
                    x -> x.store((int) beyond.applyAsLong(x), (int) beyond.applyAsLong(x), away) ? 1 : 0));
            }
        }
        all.add(new Refused("hold: false: no such one", 0, x -> true, x -> x.hold(far) ? 1 : 0));
        all.add(new Refused("restore: false, and nothing happens: no such one", 0, x -> true, x -> x.restore(far) ? 1 : 0));
    }

    private static void nothingHappens() {
        for (Refused refused : refused()) {
            DUE.sentence(refused.sentence());
            for (State state : states()) {
                Twins twins = new Twins(DUE).both(state.way());
                if (refused.when().test(twins.one())) {
                    DUE.same(refused.sentence(), refused.call().applyAsLong(twins.one()), refused.due());
                    twins.alike("refused in " + state.name());
                }
            }
        }
    }

    // ---- calls that ask

    private static void askingChangesNothing() {
        DUE.sentence("Nothing is promised beyond the answers and state changes described above: asking changes nothing");
        for (State state : states()) {
            for (Method method : methods()) {
                if (method.sentence().startsWith("hold") || method.sentence().startsWith("restore")) {
                    continue;
                }
                Twins twins = new Twins(DUE).both(state.way());
                for (int value : new int[] {-1, 0, 1, 2, 3, 4}) {
                    int[] a = {value == 4 ? 12 : 4, value == 4 ? 2 : 0, value, 7 + value, 3 - value};
                    method.call().of(twins.one(), a);
                    a[0] = value;
                    method.call().of(twins.one(), a);
                }
                twins.alike("asked by " + method.sentence() + " in " + state.name());
            }
        }
    }

    private static void calls512() {
        DUE.sentence("An object is used for at most 512 calls after it has been made");
        TaperedNumbers x = new TaperedNumbers();
        for (int i = 1; i < 512; i++) {
            DUE.yes("call " + i, x.store(64, 64, i % 2 == 0));
        }
        DUE.same("the 512th call", x.count(10), 1);
    }
}
