import java.util.ArrayList;
import java.util.List;

/** The edges of a text without FAULT and its form: each sentence of the frame of part I and of promise 26 that names one. */
public final class EdgeTextTest extends EdgeTexts {
    public static void main(String[] args) {
        everyShortText();
        minusAhead();
        sizesAndWidths();
        eightNames();
        wholeNumbers();
        toldAhead();
        negatives();
        order();
        sums();
        DUE.end();
    }

    /** Each row of few tokens behind each of some heads, against the form told with a stack. */
    private static void everyShortText() {
        DUE.sentence("SYNTAX: a TOKEN, or what is none, with which no text goes on; the text's end: its length");
        String[] tokens = {"size", "let", "root", "sum", "x", "7", ";", "+", "-", "*", "/", "(", ")", ",", "12345"};
        String[] heads = {"", "size ", "size 3 2 ", "size 3 2;", "size 3 2;let ", "size 3 2;let x ", "size 3 2;let x 1 ",
            "size 3 2;let x(1 ", "size 3 2;let x sum(1,2 ", "size 3 2;let x root(1) "};
        for (String head : heads) {
            everyShortText(head, tokens, 3);
        }
    }

    private static void everyShortText(String text, String[] tokens, int more) {
        int[] due = TextModel.formFault(text);
        TaperedNumbers x = new TaperedNumbers();
        int number = Due.read(x, text);
        DUE.same("read of " + text, number <= ROOM ? number : 0, due == null ? 0 : due[0]);
        if (due != null) {
            DUE.same("place of " + text, x.place(), due[1]);
        }
        // Behind a fault's place nothing is told any more.
        if (more > 0 && (due == null || due[1] >= text.length())) {
            for (String token : tokens) {
                everyShortText(text + token + " ", tokens, more - 1);
            }
        }
    }

    private static void minusAhead() {
        DUE.sentence("EXPR: ['-'] TERM {('+' | '-') TERM}");
        good(LINE + "-1;");
        good(LINE + "(-1)*(-1)-(-1);");
        fault(LINE + "--1;", SYNTAX, 16);
        fault(LINE + "+1;", SYNTAX, 15);
        fault(LINE + "1+-1;", SYNTAX, 17);
        fault(LINE + "1*-1;", SYNTAX, 17);
        fault(LINE + "-;", SYNTAX, 16);
        DUE.sentence("ATOM: 'sum' '(' EXPR ',' EXPR {',' EXPR ',' EXPR} ')'");
        for (int many = 0; many <= 9; many++) {
            String inside = many == 0 ? "" : "1" + ",1".repeat(many - 1);
            boolean even = many > 0 && many % 2 == 0;
            fault(LINE + "sum(" + inside + ");", even ? 0 : SYNTAX, even ? -1 : 19 + inside.length());
        }
        fault(LINE + "sum(1,1;", SYNTAX, 22);
        fault(LINE + "sum 1,1);", SYNTAX, 19);
        fault(LINE + "sum(1,1", SYNTAX, 22);
        DUE.sentence("ATOM: 'root' '(' EXPR ')'");
        fault(LINE + "root();", SYNTAX, 20);
        fault(LINE + "root(1,1);", SYNTAX, 21);
        fault(LINE + "root(1;", SYNTAX, 21);
        DUE.sentence("text: 'size' INT INT ';' {'let' NAME EXPR ';'}");
        good(HEAD);
        fault(HEAD + ";", SYNTAX, 9);
        fault(HEAD + HEAD, SYNTAX, 9);
        fault(LINE + "1", SYNTAX, 16);
        fault(LINE + "1;;", SYNTAX, 17);
        fault(LINE + "1,", SYNTAX, 16);
        fault("size x 1;", SYNTAX, 5);
        fault("size 8;", SYNTAX, 6);
        fault("size 8 1 1;", SYNTAX, 9);
        fault("size 8 x;", SYNTAX, 7);
    }

    private static void sizesAndWidths() {
        DUE.sentence("SIZE n 3 .. 12, WIDE w 0 .. 2; WRONG: (at the INT) a SIZE, a WIDE that is none");
        int[] numbers = {0, 1, 2, 3, 4, 11, 12, 13, 14, 99, 256 + 8, 9999};
        for (int n : numbers) {
            for (int w : numbers) {
                boolean size = n >= 3 && n <= 12;
                boolean wide = w >= 0 && w <= 2;
                TaperedNumbers x = new TaperedNumbers();
                int place = size ? 5 + ("" + n).length() + 1 : 5;
                DUE.fault(x, "size " + n + " " + w + ";", size && wide ? 0 : WRONG, size && wide ? -1 : place);
                DUE.same("SIZE", x.count(0), size && wide ? n : 8);
                DUE.same("WIDE", x.count(1), size && wide ? w : 1);
            }
        }
    }

    // ---- names and what they are

    private static void eightNames() {
        DUE.sentence("NAMES, 8 at most, numbered from 0 on as they stand; let: -100000: no such ones");
        StringBuilder text = new StringBuilder("size 12 2;");
        for (int names = 0; names <= 8; names++) {
            TaperedNumbers x = new TaperedNumbers();
            DUE.fault(x, text.toString(), 0, -1);
            DUE.same("NAMES", x.count(2), names);
            for (int i = 0; i < 8; i++) {
                DUE.same("let(" + i + ",1) of " + names, x.let(i, 1), i < names ? 8 - i : NO_SUCH);
                DUE.same("let(" + i + ",0) of " + names, x.let(i, 0), i < names ? x.quotient(12, 2, 8 - i, 1) : NO_SUCH);
            }
            for (int i : new int[] {-1, 8, 9, Integer.MIN_VALUE, Integer.MAX_VALUE}) {
                DUE.same("let(" + i + ",0)", x.let(i, 0), NO_SUCH);
            }
            text.append("let ").append((char) ('z' - names)).append(' ').append(8 - names).append(';');
        }
        fault(text.toString(), ROOM, text.length() - 8);
        DUE.sentence("let: 1 WHOLE (-2 of NIL), 2 MANT, 3 POWER (2, 3: -2 of 0, NIL)");
        TaperedNumbers x = new TaperedNumbers();
        DUE.fault(x, "size 12 1;let nil 1/0;let nought 0;let less -2;let more 6/16;", 0, -1);
        int[][] due = {{2048, -2, -2, -2}, {0, 0, -2, -2}, {x.quotient(12, 1, -2, 1), -2, 1, 1}, {x.quotient(12, 1, 3, 8), 0, 3, -3}};
        for (int i = 0; i < due.length; i++) {
            for (int what = 0; what <= 3; what++) {
                DUE.same("let(" + i + "," + what + ")", x.let(i, what), due[i][what]);
            }
        }
    }

    private static void wholeNumbers() {
        DUE.sentence("an INT the ROW for it");
        List<Integer> numbers = new ArrayList<>();
        for (int i = 0; i <= 40; i++) {
            numbers.add(i);
        }
        for (int power = 64; power <= 8192; power *= 2) {
            for (int i : new int[] {-1, 0, 1, power / 64, power / 32, power / 64 * 3, power / 2 - 1}) {
                numbers.add(Math.min(power + i, 9999));
            }
        }
        numbers.add(9998);
        for (int number : numbers) {
            TaperedNumbers x = new TaperedNumbers();
            Due.read(x, "size 3 0;let x " + number + ";");
            for (int n = 3; n <= 12; n++) {
                for (int w = 0; w <= 2; w++) {
                    x.resize(n, w);
                    int due = Model.rounded(n, w, Model.Frac.of(number, 1));
                    DUE.same("the ROW of " + number + " by " + n + "," + w, x.let(0, 0), due);
                }
            }
        }
    }

    private static void toldAhead() {
        DUE.sentence("a NAME that is told ahead what it is; NAME: (at it) in an EXPR none told ahead");
        DUE.same("all the way", last("size 12 2;let a 3;let b a;let c b;let d c;let e d;let f e;let g f;let h a*b*g;"),
            new TaperedNumbers().quotient(12, 2, 27, 1));
        fault(LINE + "x;", NAME, 15);
        fault(LINE + "1+x;", NAME, 17);
        fault(LINE + "y;let y 1;", NAME, 15);
        fault(LINE + "1;let y z;let z y;", NAME, 23);
        fault(LINE + "root(y);", NAME, 20);
        fault(LINE + "sum(1,y);", NAME, 21);
        fault(LINE + "-y;", NAME, 16);
        good(LINE + "1;let y x+x*x/x-(x);");
        // What a text with a FAULT, or the text ahead, has told is not told.
        TaperedNumbers x = new TaperedNumbers();
        DUE.fault(x, HEAD + "let a 1;let b c;", NAME, 23);
        DUE.fault(x, HEAD + "let b a;", NAME, 15);
        DUE.fault(x, HEAD + "let a 1;", 0, -1);
        DUE.fault(x, HEAD + "let b a;", NAME, 15);
    }

    private static void negatives() {
        DUE.sentence("'-' ahead of a TERM: its NEGATIVE (of 0 and NIL itself)");
        TaperedNumbers x = new TaperedNumbers();
        for (int n = 3; n <= 12; n++) {
            int nil = 1 << (n - 1);
            DUE.fault(x, "size " + n + " 1;let a -0;let b -(1/0);let c -(1);let d -9999;let e -(-9999);let f -1/4*0;", 0, -1);
            DUE.same("of 0", x.let(0, 0), 0);
            DUE.same("of NIL", x.let(1, 0), nil);
            DUE.same("of 1", x.let(2, 0), (1 << n) - (1 << (n - 2)));
            DUE.same("beyond", x.let(3, 0), n <= 7 ? nil + 1 : x.quotient(n, 1, -9999, 1));
            DUE.same("beyond", x.let(4, 0), n <= 7 ? nil - 1 : x.quotient(n, 1, 9999, 1));
            DUE.same("of 0", x.let(5, 0), 0);
        }
        DUE.same("of the TERM alone", last("size 12 2;let x -2+5;"), x.quotient(12, 2, 3, 1));
        DUE.same("of the whole TERM", last("size 12 2;let x -2*3-1;"), x.quotient(12, 2, -7, 1));
    }

    private static void order() {
        DUE.sentence("EXPR of TERMS, TERM of ATOMS, one behind the other");
        String[] texts = {"8-4-2", "8/4/2", "8-4/2", "8/4*2", "2+3*4", "(2+3)*4", "8-(4-2)", "8/(4/2)", "2*3+4*5-6/3", "1-2+3", "-8/2-1"};
        int[] due = {2, 1, 6, 4, 14, 20, 6, 4, 24, 2, -5};
        for (int i = 0; i < texts.length; i++) {
            DUE.same(texts[i], last("size 12 2;let x " + texts[i] + ";"), new TaperedNumbers().quotient(12, 2, due[i], 1));
        }
        DUE.sentence("what is ROUNDED of both, of the one");
        // 17 is 16 in SIZE 8, WIDE 1 (tie to even), so one that is rounded at each sign tells it.
        TaperedNumbers x = new TaperedNumbers();
        int sixteen = x.both(8, 1, x.quotient(8, 1, 16, 1), 64, 0);
        DUE.same("16 and 1 and 1", last(LINE + "16+1+1;"), x.both(8, 1, sixteen, 64, 0));
        DUE.same("root of 2, of it", last(LINE + "root(root(2));"), x.root(8, 1, x.root(8, 1, 80)));
        DUE.same("root of 0", last(LINE + "root(0);"), 0);
        DUE.same("root of what is below 0", last(LINE + "root(-1);"), 128);
        DUE.same("by 0", last(LINE + "1/(2-2);"), 128);
        DUE.same("0 by 0", last(LINE + "0/0;"), 128);
        DUE.same("0 by 1", last(LINE + "0/1;"), 0);
        DUE.same("NIL by NIL", last(LINE + "(1/0)/(1/0);"), 128);
    }

    private static void sums() {
        DUE.sentence("'sum': of each two the product, all added without loss, ROUNDED then");
        TaperedNumbers x = new TaperedNumbers();
        DUE.same("lost and kept", last("size 8 0;let x sum(64,64,1/64,1/64,-64,64);"), 1);
        DUE.same("the other way round", last("size 8 0;let x sum(-64,64,1/64,1/64,64,64);"), 1);
        DUE.same("all goes", last("size 12 2;let x sum(9999,9999,-9999,9999);"), 0);
        DUE.same("one product", last("size 8 1;let x sum(3,5);"), x.both(8, 1, x.quotient(8, 1, 3, 1), x.quotient(8, 1, 5, 1), 2));
        DUE.same("halfway", last("size 4 0;let x sum(1,1,1/2,1/2);"), 4);
        DUE.same("more than halfway", last("size 4 0;let x sum(1,1,1/2,1/2,1/4,1/4);"), 5);
        DUE.same("less than halfway", last("size 4 0;let x sum(1,1,1/2,1/2,-1/4,1/4);"), 4);
        String most = "size 12 2;let x -(sum(1,1" + ",1,1".repeat(96) + "));";
        DUE.same("the most that a text has room for", last(most), x.quotient(12, 2, -97, 1));
        // g is 2 to the 40, b 2 to the -40: what is least counts far behind what is greatest.
        String great = "size 12 2;let g 9999*9999*9999*9999;let b 1/g;let x sum(g,g" + ",g,g".repeat(30) + ",b,PART" + ",-g,g".repeat(31) + ");";
        DUE.same("2 to the -80: 1", last(great.replace("PART", "b")), 1);
        DUE.same("2 to the -36", last(great.replace("PART", "16")), 2);
        DUE.same("-2 to the -36", last(great.replace("PART", "-16")), 4094);
        DUE.same("0", last(great.replace("PART", "0")), 0);
        DUE.sentence("NIL comes of a 'sum' with NIL");
        String[] four = {"1", "2", "3", "4"};
        for (int i = 0; i < 4; i++) {
            String[] one = four.clone();
            one[i] = "1/0";
            DUE.same("NIL at " + i, last(LINE + "sum(" + String.join(",", one) + ");"), 128);
        }
        DUE.same("0 times NIL", last(LINE + "sum(0,1/0);"), 128);
        DUE.same("NIL is gone for the next", last(LINE + "sum(0,1/0);let y sum(1,1);"), 64);
    }
}
