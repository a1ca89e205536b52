import java.util.Random;

/** Promises 2 to 5 and 26: the tape, texts, their faults and their names. */
public final class TextTest {
    private static final Due DUE = new Due();
    /** A fixed seed: each run asks the same. */
    private static final Random RANDOM = new Random(20261119);
    private static final String[] WORDS = {"size", "let", "root", "sum", "a", "b", "zz", "abcdefgh", "abcdefghi", "0", "1", "3",
        "12", "9999", "12345", ";", "+", "-", "*", "/", "(", ")", ",", ".", "A", "!"};
    /** One object reads many texts: nothing of one may be left for the next. */
    private static TaperedNumbers reader = new TaperedNumbers();
    private static final String[] BLANKS = {" ", "\t", "\n", "\r", "  "};

    public static void main(String[] args) {
        tape();
        syntax();
        room();
        namesAndSizes();
        names();
        manyByOne();
        for (int i = 0; i < 9000; i++) {
            // An object is used for 512 calls at most.
            reader = i % 4 == 0 ? new TaperedNumbers() : reader;
            if (i % 3 == 0) {
                goodText();
            } else {
                brokenText();
            }
        }
        DUE.end();
    }

    // ---- the tape

    private static void tape() {
        TaperedNumbers x = new TaperedNumbers();
        DUE.same("place of a new object", x.place(), -1);
        DUE.same("back(0)", x.back(0), 0);
        DUE.same("back(1)", x.back(1), -1);
        for (int i = 1; i <= 100; i++) {
            DUE.same("feed " + i, x.feed(0x73697a65, 0x20203320, 0x20302020, 0x3b202020, -1), i * 20);
        }
        DUE.same("feed 101", x.feed(0, 0, 0, 0, 0), -1);
        DUE.same("count(6)", x.count(6), 2000);
        DUE.same("back(-1)", x.back(-1), -1);
        DUE.same("back(-2147483648)", x.back(-2147483648), -1);
        DUE.same("back(2001)", x.back(2001), -1);
        DUE.same("back(2147483647)", x.back(2147483647), -1);
        DUE.same("back(1)", x.back(1), 1999);
        DUE.same("feed at 1999", x.feed(0, 0, 0, 0, 0), -1);
        DUE.same("back(1983)", x.back(1983), 16);
        DUE.same("read", x.read(), 0);
        DUE.same("count(6) when read", x.count(6), 0);
        DUE.same("count(0)", x.count(0), 3);
        DUE.same("count(1)", x.count(1), 0);
        DUE.same("an empty tape", x.read(), 1);
        DUE.same("its place", x.place(), 0);
        DUE.same("count(6) when read with a fault", x.count(6), 0);
        StringBuilder full = new StringBuilder("size 3 0;");
        while (full.length() < 2000) {
            full.append('\n');
        }
        fault(full.toString(), 0, -1);
    }

    // ---- faults

    private static void fault(String text, int number, int place) {
        DUE.fault(new TaperedNumbers(), text, number, place);
    }

    private static void syntax() {
        fault("", 1, 0);
        fault("   ", 1, 3);
        fault("size", 1, 4);
        fault("size ", 1, 5);
        fault("size8 1;", 0, -1);
        fault("\tsize\r8\n1 ;\n", 0, -1);
        fault("size 81;", 1, 7);
        fault("siz 8 1;", 1, 0);
        fault("sizes 8 1;", 1, 0);
        fault("Size 8 1;", 1, 0);
        fault("size 8 1", 1, 8);
        fault("size 8 1; ;", 1, 10);
        fault("size 8 1; x", 1, 10);
        fault("size 8 1; let", 1, 13);
        fault("size 8 1; let let 1;", 1, 14);
        fault("size 8 1; let root 1;", 1, 14);
        fault("size 8 1; letx 1;", 1, 10);
        fault("size 8 1;let x1;", 0, -1);
        fault("size 8 1;let x;", 1, 14);
        fault("size 8 1;let x--1;", 1, 15);
        fault("size 8 1;let x 1*-1;", 1, 17);
        fault("size 8 1;let x 1-(-1);", 0, -1);
        fault("size 8 1;let x -1+2;", 0, -1);
        fault("size 8 1;let x +1;", 1, 15);
        fault("size 8 1;let x 1 2;", 1, 17);
        fault("size 8 1;let x 1.5;", 1, 16);
        fault("size 8 1;let x 12345;", 1, 15);
        fault("size 8 1;let x 1234;", 0, -1);
        fault("size 8 1;let abcdefgh 1;", 0, -1);
        fault("size 8 1;let abcdefghi 1;", 1, 13);
        fault("size 8 1;let x = 1;", 1, 15);
        fault("size 8 1;let x 1;" + (char) 233, 1, 17);
        fault("size 8 1;" + (char) 0, 1, 9);
        fault("size 8 1;" + (char) 11, 1, 9);
        fault("size 8 1;let x root 2;", 1, 20);
        fault("size 8 1;let x root(2;", 1, 21);
        fault("size 8 1;let x root(2));", 1, 22);
        fault("size 8 1;let x root(2,3);", 1, 21);
        fault("size 8 1;let x sum(1);", 1, 20);
        fault("size 8 1;let x sum(1,2,3);", 1, 24);
        fault("size 8 1;let x sum(1,2,);", 1, 23);
        fault("size 8 1;let x sum(1,-2,3*4,(5));", 0, -1);
        fault("size 8 1;let x ();", 1, 16);
    }

    private static String times(String part, int times) {
        StringBuilder all = new StringBuilder();
        for (int i = 0; i < times; i++) {
            all.append(part);
        }
        return all.toString();
    }

    private static void room() {
        String head = "size 8 1;let x ";
        String eight = times("(", 8) + "1" + times(")", 8);
        fault(head + eight + "+" + eight + ";", 0, -1);
        fault(head + "(" + eight + ");", 2, 15 + 8);
        fault(head + "root" + eight + ";", 0, -1);
        fault(head + "root(" + eight + ");", 2, 15 + 5 + 7);
        fault(head + times("sum(1,", 9) + "1" + times(")", 9) + ";", 2, 15 + 6 * 8 + 3);
        fault(head + times("(", 8) + "1+)", 1, 15 + 10);
        StringBuilder lines = new StringBuilder("size 8 1;");
        for (int i = 0; i < 8; i++) {
            lines.append("let ").append((char) ('a' + i)).append(" 1;");
        }
        fault(lines.toString(), 0, -1);
        fault(lines + "let i 1;", 2, lines.length());
        fault(lines + " let", 2, lines.length() + 1);
        fault(lines + "i let", 1, lines.length());
        fault(lines + ";", 1, lines.length());
        // Six tokens of head, one, and 196 times two: the next is the 400th.
        String many = head + "1" + times("+1", 196);
        int end = many.length();
        fault(many + ";", 0, -1);
        fault(many + ";;", 1, end + 1);
        fault(many + ";y", 1, end + 1);
        fault(many + "; let", 2, end + 2);
        fault(many + "; let !", 2, end + 2);
        fault(many + "+1;", 2, end + 1);
        fault(many + "+1!", 2, end + 1);
        fault(many + "+!", 1, end + 1);
        fault(many + "+)", 1, end + 1);
        fault(many + "+12345", 1, end + 1);
        fault(many + "+", 1, end + 1);
        fault(many + "+.", 1, end + 1);
        fault(many + "!", 1, end);
    }

    private static void manyByOne() {
        TaperedNumbers x = new TaperedNumbers();
        String opened = "size 8 1;let x " + times("(", 8);
        DUE.fault(x, opened, 1, opened.length());
        DUE.fault(x, opened + "1" + times(")", 8) + ";", 0, -1);
        DUE.same("1", x.let(0, 0), 64);
        for (int i = 0; i < 4; i++) {
            DUE.fault(x, "size 8 1;let x 2" + times("*1", 100) + ";let y x;", 0, -1);
            DUE.same("2", x.let(1, 0), 80);
            DUE.fault(x, "size 8 1;let x 1;let x y;", 3, 21);
            DUE.fault(x, "size 8 1;let x 1;let y", 1, 22);
        }
        DUE.fault(x, "size 8 1;", 0, -1);
        DUE.same("no NAMES", x.count(2), 0);
        DUE.same("no ROW", x.let(0, 0), -100000);
    }

    private static void namesAndSizes() {
        fault("size 2 0;", 5, 5);
        fault("size 13 0;", 5, 5);
        fault("size 3 3;", 5, 7);
        fault("size 0012 0002;", 0, -1);
        fault("size 0 9;", 5, 5);
        fault("size 0 9", 1, 8);
        fault("size 8 1;let x x;", 4, 15);
        fault("size 8 1;let x 1;let y z;let x 2;", 4, 23);
        fault("size 8 1;let x 1;let x z;let y 2;", 3, 21);
        fault("size 8 1;let x y;let y 2;", 4, 15);
        fault("size 8 1;let x y;let y 2", 1, 24);
        fault("size 9 3;let x y;", 5, 7);
        fault("size 8 1;let x 1;let y x+q*q;", 4, 25);
    }

    // ---- names

    private static void names() {
        TaperedNumbers x = new TaperedNumbers();
        DUE.fault(x, "size 4 0;let one 1;let two one+one;let half one/two;let nil one/0;let less -two-two;"
            + "let fine sum(two,two,one,-one);let nought two-two;let big 9999;", 0, -1);
        int[] rows = {4, 6, 2, 8, 9, 6, 0, 7};
        int[] wholes = {1, 2, 0, -2, -4, 2, 0, 4};
        int[] mants = {1, 1, 1, -2, 1, 1, -2, 1};
        int[] powers = {0, 1, -1, -2, 2, 1, -2, 2};
        for (int i = 0; i < 8; i++) {
            DUE.same("let(" + i + ",0)", x.let(i, 0), rows[i]);
            DUE.same("let(" + i + ",1)", x.let(i, 1), wholes[i]);
            DUE.same("let(" + i + ",2)", x.let(i, 2), mants[i]);
            DUE.same("let(" + i + ",3)", x.let(i, 3), powers[i]);
            DUE.same("let(" + i + ",4)", x.let(i, 4), -100000);
            DUE.same("let(" + i + ",-1)", x.let(i, -1), -100000);
        }
        DUE.same("let(8,0)", x.let(8, 0), -100000);
        DUE.same("let(-1,0)", x.let(-1, 0), -100000);
        DUE.same("let(2147483647,0)", x.let(2147483647, 0), -100000);
        DUE.same("let(-2147483648,0)", x.let(-2147483648, 0), -100000);
        DUE.same("count(2)", x.count(2), 8);
        DUE.same("count(4)", x.count(4), 8);
        DUE.same("count(5)", x.count(5), 7);
        faultChangesNothing(x);
        DUE.fault(x, "size 5 2;let a 0*(1/0);let b sum(0,a);let c root(-1);let d root(0);", 0, -1);
        DUE.same("0 times NIL", x.let(0, 0), 16);
        DUE.same("sum with NIL", x.let(1, 0), 16);
        DUE.same("root below 0", x.let(2, 0), 16);
        DUE.same("root of 0", x.let(3, 0), 0);
        DUE.same("let(4,0) is gone", x.let(4, 0), -100000);
        DUE.same("count(4)", x.count(4), 7);
        DUE.same("count(5)", x.count(5), 2);
        withoutLoss();
    }

    private static void faultChangesNothing(TaperedNumbers x) {
        x.store(4, 4, false);
        x.hold(1);
        for (String text : new String[] {"size 8 1", "size 8 1;let a b;", "size 13 0;", ""}) {
            Due.read(x, text);
            DUE.same("SIZE after a fault", x.count(0), 4);
            DUE.same("NAMES after a fault", x.count(2), 8);
            DUE.same("a NAME after a fault", x.let(5, 0), 6);
            DUE.same("STORE after a fault", x.count(3), 1);
            DUE.same("undo after a fault", x.count(7), 1);
            DUE.same("SLOTS after a fault", x.count(8), 1);
            DUE.same("tape after a fault", x.count(6), 0);
        }
    }

    /** A product added step by step is lost, in a sum it isn't. */
    private static void withoutLoss() {
        TaperedNumbers x = new TaperedNumbers();
        DUE.fault(x, "size 8 0;let b 64;let s 1/64;let lost b*b+s*s-b*b;let kept sum(b,b,s,s,-b,b);let deep sum(sum(1,2,3,4),sum(5,6),1,1);", 0, -1);
        DUE.same("lost", x.let(2, 0), 0);
        DUE.same("kept", x.let(3, 0), 1);
        DUE.same("deep", x.let(4, 0), new TaperedNumbers().quotient(8, 0, 14 * 30 + 1, 1));
    }

    // ---- texts by chance, read again in another way

    private static void brokenText() {
        StringBuilder text = new StringBuilder();
        if (RANDOM.nextInt(4) > 0) {
            text.append(randomText(RANDOM.nextInt(5), RANDOM.nextInt(16) == 0));
        }
        int changes = RANDOM.nextInt(4);
        for (int i = 0; i < changes; i++) {
            int from = RANDOM.nextInt(text.length() + 1);
            int to = Math.min(text.length(), from + RANDOM.nextInt(3));
            text.replace(from, to, RANDOM.nextInt(5) == 0 ? "" : blank() + WORDS[RANDOM.nextInt(WORDS.length)] + blank());
        }
        if (text.length() > 1980) {
            return;
        }
        int[] due = TextModel.fault(text.toString());
        DUE.fault(reader, text.toString(), due[0], due[1]);
    }

    private static String blank() {
        return RANDOM.nextBoolean() ? "" : BLANKS[RANDOM.nextInt(BLANKS.length)];
    }

    private static String randomText(int names, boolean anyNames) {
        StringBuilder text = new StringBuilder("size ").append(3 + RANDOM.nextInt(10)).append(blank()).append(' ')
            .append(RANDOM.nextInt(3)).append(";");
        for (int i = 0; i < names; i++) {
            text.append(blank()).append("let ").append(name(i)).append(' ');
            text.append(randomExpr(anyNames ? 8 : i, 3 + RANDOM.nextInt(2))).append(';');
        }
        return text.toString();
    }

    private static String name(int i) {
        return "" + (char) ('a' + i);
    }

    private static String randomExpr(int names, int depth) {
        StringBuilder expr = new StringBuilder(RANDOM.nextInt(4) == 0 ? "-" : "").append(randomTerm(names, depth));
        for (int i = RANDOM.nextInt(3); i > 0; i--) {
            expr.append(RANDOM.nextBoolean() ? "+" : "-").append(blank()).append(randomTerm(names, depth));
        }
        return expr.toString();
    }

    private static String randomTerm(int names, int depth) {
        StringBuilder term = new StringBuilder(randomAtom(names, depth));
        for (int i = RANDOM.nextInt(3); i > 1; i--) {
            term.append(RANDOM.nextBoolean() ? "*" : "/").append(blank()).append(randomAtom(names, depth));
        }
        return term.toString();
    }

    private static String randomAtom(int names, int depth) {
        int kind = RANDOM.nextInt(depth > 0 ? 9 : 5);
        if (kind < 3 || kind < 5 && names == 0) {
            return "" + RANDOM.nextInt(RANDOM.nextBoolean() ? 10 : 10000);
        }
        if (kind < 5) {
            return name(RANDOM.nextInt(names));
        }
        if (kind < 7) {
            return "(" + randomExpr(names, depth - 1) + ")";
        }
        if (kind == 7) {
            return "root(" + randomExpr(names, depth - 1) + ")";
        }
        StringBuilder sum = new StringBuilder("sum(");
        for (int i = RANDOM.nextInt(2); i >= 0; i--) {
            sum.append(randomExpr(names, depth - 1)).append(',').append(randomExpr(names, depth - 1)).append(i > 0 ? "," : ")");
        }
        return sum.toString();
    }

    private static void goodText() {
        String text = randomText(1 + RANDOM.nextInt(8), false);
        if (text.length() > 1980 || TextModel.formFault(text) != null) {
            return;
        }
        TaperedNumbers x = reader;
        DUE.fault(x, text, 0, -1);
        same(x, text, x.count(0), x.count(1));
        int n = 3 + RANDOM.nextInt(10);
        int w = RANDOM.nextInt(3);
        boolean other = n != x.count(0) || w != x.count(1);
        int before = x.let(0, 0);
        DUE.same("resize of " + text, x.resize(n, w), other);
        same(x, text, n, w);
        if (other) {
            DUE.yes("undo of resize", x.undo());
            DUE.same("the ROW of before", x.let(0, 0), before);
        }
    }

    private static void same(TaperedNumbers x, String text, int n, int w) {
        int[] rows = TextModel.rows(text, n, w);
        DUE.same("NAMES of " + text, x.count(2), rows.length);
        for (int i = 0; i < rows.length; i++) {
            DUE.same("NAME " + i + " by " + n + "," + w + " of " + text, x.let(i, 0), rows[i]);
        }
    }
}
