import java.util.ArrayList;
import java.util.List;

/** The edges of the tape and of a text: each sentence of part I and of promises 2 to 5 and 26 that names one. */
public final class EdgeTextTest {
    private static final Due DUE = new Due();
    private static final int SYNTAX = 1;
    private static final int ROOM = 2;
    private static final int TWICE = 3;
    private static final int NAME = 4;
    private static final int WRONG = 5;
    private static final int NO_SUCH = -100000;
    private static final String HEAD = "size 8 1;";
    private static final String LINE = HEAD + "let x ";

    public static void main(String[] args) {
        tapeFills();
        tapeShrinks();
        tapeIsRead();
        placeOfTheLatest();
        longestText();
        blanks();
        letters();
        digits();
        signs();
        words();
        longestTokens();
        everyShortText();
        minusAhead();
        sizesAndWidths();
        eightNames();
        wholeNumbers();
        toldAhead();
        negatives();
        order();
        sums();
        firstByPlace();
        leastOfOnePlace();
        tokens401();
        lets9();
        open9();
        laterFaults();
        faultChangesNothing();
        inPlaceOfTheOneAhead();
        DUE.end();
    }

    private static void fault(String text, int number, int place) {
        fault(new TaperedNumbers(), text, number, place);
    }

    private static void fault(TaperedNumbers x, String text, int number, int place) {
        DUE.same("read of " + text, Due.read(x, text), number);
        DUE.same("place of " + text, x.place(), place);
    }

    private static void good(String text) {
        fault(text, 0, -1);
    }

    /** The ROW of the last NAME of a text that has no FAULT. */
    private static int last(String text) {
        TaperedNumbers x = new TaperedNumbers();
        fault(x, text, 0, -1);
        return x.let(x.count(2) - 1, 0);
    }

    private static TaperedNumbers fed(String text) {
        TaperedNumbers x = new TaperedNumbers();
        DUE.same("fed", Due.feed(x, text), text.length());
        return x;
    }

    // ---- the tape

    private static void tapeFills() {
        DUE.sentence("feed: Twenty bytes, the highest of a first, come behind the tape");
        for (int i = 0; i < 20; i++) {
            for (int value : new int[] {127, 128, 255, 0}) {
                int[] fives = {0x20202020, 0x20202020, 0x20202020, 0x20202020, 0x20202020};
                int shift = 24 - i % 4 * 8;
                fives[i / 4] = fives[i / 4] & ~(255 << shift) | value << shift;
                TaperedNumbers x = new TaperedNumbers();
                DUE.same("feed", x.feed(fives[0], fives[1], fives[2], fives[3], fives[4]), 20);
                DUE.same("read of byte " + i, x.read(), SYNTAX);
                DUE.same("place of byte " + i, x.place(), i);
            }
        }
        TaperedNumbers twenty = fed("size 8 1;let a 1234;");
        DUE.same("twenty bytes", twenty.count(6), 20);
        DUE.same("read", twenty.read(), 0);
        DUE.same("1234", twenty.let(0, 0), twenty.quotient(8, 1, 1234, 1));

        DUE.sentence("feed: NONE, and nothing comes, if it would have more than 2,000");
        for (int length = 1961; length <= 2000; length++) {
            TaperedNumbers x = fed("size 4 1;" + " ".repeat(length - 9));
            boolean fits = length <= 1980;
            DUE.same("feed at " + length, x.feed(-1, -1, -1, -1, -1), fits ? length + 20 : -1);
            DUE.same("tape at " + length, x.count(6), fits ? length + 20 : length);
            DUE.same("read at " + length, x.read(), fits ? SYNTAX : 0);
            DUE.same("place at " + length, x.place(), fits ? length : -1);
        }
    }

    private static void tapeShrinks() {
        DUE.sentence("back: The last n bytes of the tape go: how many it has");
        TaperedNumbers x = fed("size 4 1;let a 2;!!");
        DUE.same("back(0)", x.back(0), 19);
        DUE.same("back(2)", x.back(2), 17);
        DUE.same("behind what is left", Due.feed(x, "let b 1;"), 25);
        DUE.same("read", x.read(), 0);
        DUE.same("b", x.let(1, 0), 4);
        Due.feed(x, "abc");
        DUE.same("back(3), all", x.back(3), 0);
        DUE.same("back(0), none", x.back(0), 0);

        DUE.sentence("back: NONE, and nothing goes, if it has not so many, or n is below 0");
        DUE.same("back(1) of none", x.back(1), -1);
        Due.feed(x, HEAD);
        for (int n : new int[] {10, 11, 2000, 2001, Integer.MAX_VALUE, -1, -9, Integer.MIN_VALUE}) {
            DUE.same("back(" + n + ") of 9", x.back(n), -1);
            DUE.same("nothing goes", x.count(6), 9);
        }
        DUE.same("nothing went", x.read(), 0);
        TaperedNumbers full = fed(" ".repeat(2000));
        DUE.same("back(2001) of 2000", full.back(2001), -1);
        DUE.same("back(2000) of 2000", full.back(2000), 0);
    }

    private static void tapeIsRead() {
        DUE.sentence("read: The tape, which is empty then, is read");
        TaperedNumbers x = new TaperedNumbers();
        for (String text : new String[] {HEAD, "size 8", HEAD + "let a b;", "size 2 1;", "", " ".repeat(2000)}) {
            Due.read(x, text);
            DUE.same("empty", x.count(6), 0);
            DUE.same("back(1)", x.back(1), -1);
            fault(x, "", SYNTAX, 0);
        }
        DUE.same("twenty bytes come behind nothing", x.feed(0, 0, 0, 0, 0), 20);
    }

    private static void placeOfTheLatest() {
        DUE.sentence("place: The byte of the latest read()'s FAULT; NONE without");
        TaperedNumbers x = new TaperedNumbers();
        DUE.same("no read()", x.place(), -1);
        fault(x, "size 8 1;let", SYNTAX, 12);
        Due.feed(x, "size 5 3;");
        x.back(30);
        x.store(1, 1, false);
        x.undo();
        DUE.same("no other read()", x.place(), 12);
        fault(x, "", WRONG, 7);
        fault(x, "", SYNTAX, 0);
        fault(x, HEAD, 0, -1);
        fault(x, "!", SYNTAX, 0);
        fault(x, HEAD, 0, -1);
    }

    private static void longestText() {
        DUE.sentence("A TEXT has 2,000 bytes at most");
        String text = "size 4 1;let a" + " ".repeat(1984) + "2;";
        DUE.same("bytes", text.length(), 2000);
        TaperedNumbers x = new TaperedNumbers();
        fault(x, text, 0, -1);
        DUE.same("its last NAME", x.let(0, 1), 2);
        fault(" ".repeat(1991) + HEAD, 0, -1);
        fault(" ".repeat(2000), SYNTAX, 2000);
        fault(" ".repeat(1999) + "!", SYNTAX, 1999);
        fault(text.substring(0, 1999) + "!", SYNTAX, 1999);
        fault(text.substring(0, 1999) + " ", SYNTAX, 2000);
        fault(HEAD + "let " + "a".repeat(1987), SYNTAX, 13);
        fault("size " + "1".repeat(1995), SYNTAX, 5);
        fault(HEAD + "let a " + "(".repeat(1985), ROOM, 15 + 8);
        fault(HEAD + "let a 1" + "+1".repeat(992), ROOM, 15 + 394);
    }

    // ---- tokens

    private static void blanks() {
        DUE.sentence("TOKENS with blanks (9, 10, 13, 32) between or not");
        for (int value = 0; value < 256; value++) {
            char one = (char) value;
            boolean blank = value == 9 || value == 10 || value == 13 || value == 32;
            fault(one + HEAD, blank ? 0 : SYNTAX, blank ? -1 : 0);
            boolean letter = one >= 'a' && one <= 'z';
            boolean digit = one >= '0' && one <= '9';
            boolean nought = one == '0';
            fault("size" + one + "8 1;", blank || nought ? 0 : digit ? WRONG : SYNTAX, blank || nought ? -1 : letter ? 0 : 4);
            fault("size 8" + one + "1;", blank ? 0 : SYNTAX, blank ? -1 : digit ? 8 : 6);
            fault("size 8 1" + one + " ;", blank ? 0 : digit ? WRONG : SYNTAX, blank ? -1 : digit ? 7 : one == ';' ? 10 : 8);
            fault(HEAD + one, blank ? 0 : SYNTAX, blank ? -1 : 9);
        }
        String[] parts = {"size", "8", "1", ";", "let", "x", "-", "(", "root", "(", "2", ")", "+", "sum", "(", "3", ",", "4", ")",
            "/", "5", ")", "*", "6", ";", "let", "y", "x", ";"};
        good(String.join("\t\n\r ", parts));
        good(String.join("\n", parts) + "\r\n\r\n");
        good("size 8 1;let x-(root(2)+sum(3,4)/5)*6;let y x;");
        good("size8 1;let x1;let y2;");
    }

    private static void letters() {
        DUE.sentence("NAMES (letters a .. z, 8 at most)");
        for (int value = 0; value < 256; value++) {
            char one = (char) value;
            boolean letter = one >= 'a' && one <= 'z';
            boolean blank = value == 9 || value == 10 || value == 13 || value == 32;
            fault(HEAD + "let " + one + " 1;", letter ? 0 : SYNTAX, letter ? -1 : blank ? 15 : 13);
        }
        String all = "abcdefghijklmnopqrstuvwxyz";
        for (int length = 1; length <= 8; length++) {
            for (int from = 0; from + length <= 26; from++) {
                String name = all.substring(from, from + length);
                good(HEAD + "let " + name + " 3;let " + (name.equals("q") ? "z " : "q ") + name + ";");
            }
            fault(HEAD + "let " + "z".repeat(length) + " 1;let y " + "z".repeat(length) + ";", 0, -1);
        }
        for (int length = 9; length <= 40; length++) {
            fault(HEAD + "let " + "z".repeat(length) + " 1;", SYNTAX, 13);
            fault(LINE + "z".repeat(length) + ";", SYNTAX, 15);
        }
        // The first, the last, one more: each letter tells them apart.
        fault(HEAD + "let abcdefgh 1;let abcdefgi abcdefgh;let abcdefg abcdefgi;", 0, -1);
        fault(HEAD + "let zzzzzzzz 1;let zzzzzzz zzzzzzzz;let a zzzzzz;", NAME, 51);
        fault(HEAD + "let bbbbbbbb 1;let x abbbbbbb;", NAME, 30);
        fault(HEAD + "let a 1;let x aa;", NAME, 23);
        fault(HEAD + "let aa 1;let x a;", NAME, 24);
    }

    private static void digits() {
        DUE.sentence("INTS (1 to 4 digits)");
        for (int value = 0; value < 256; value++) {
            char one = (char) value;
            boolean letter = one >= 'a' && one <= 'z';
            boolean digit = one >= '0' && one <= '9';
            boolean blank = value == 9 || value == 10 || value == 13 || value == 32;
            boolean goesOn = blank || one == '-' || one == '(';
            fault(LINE + one + ";", digit ? 0 : letter ? NAME : SYNTAX, digit ? -1 : goesOn ? 16 : 15);
        }
        for (String number : new String[] {"0", "00", "000", "0000", "9999", "0001"}) {
            good(LINE + number + ";");
        }
        for (String number : new String[] {"00000", "10000", "99999", "000001", "4294967296", "18446744073709551616", "9".repeat(40)}) {
            fault(LINE + number + ";", SYNTAX, 15);
            fault("size " + number + " 1;", SYNTAX, 5);
            fault("size 8 " + number + ";", SYNTAX, 7);
        }
        fault(LINE + "12 34;", SYNTAX, 18);
        fault(LINE + "1-2;", 0, -1);
        fault("size -8 1;", SYNTAX, 5);
        fault("size 8 -1;", SYNTAX, 7);
    }

    private static void signs() {
        DUE.sentence("SIGNS ; + - * / ( ) ,");
        String[] fitting = {"1+1", "1-1", "1*1", "1/1", "(1)", "-1", "sum(1,1)", "root(1)"};
        for (String one : fitting) {
            good(LINE + one + ";");
        }
        for (char one : ".:=<>[]{}!\"#$%&'@^_`|~?\\".toCharArray()) {
            fault(LINE + "1" + one + "1;", SYNTAX, 16);
            fault(LINE + one + "1;", SYNTAX, 15);
            fault(HEAD + one, SYNTAX, 9);
        }
    }

    private static void words() {
        DUE.sentence("NAMES: none of the words in quotes");
        for (String word : new String[] {"size", "let", "root", "sum"}) {
            fault(HEAD + "let " + word + " 1;", SYNTAX, 13);
            boolean opens = word.equals("root") || word.equals("sum");
            fault(LINE + word + ";", SYNTAX, opens ? 15 + word.length() : 15);
            fault(LINE + word + " 1;", SYNTAX, opens ? 16 + word.length() : 15);
            for (String near : new String[] {word + "s", word + "a", "a" + word, word.substring(1), word.substring(0, word.length() - 1),
                word + word}) {
                good(HEAD + "let " + near + " 1;let q " + near + ";");
                fault(near + " 8 1;", SYNTAX, 0);
                fault(HEAD + near + " x 1;", SYNTAX, 9);
            }
        }
        fault("SIZE 8 1;", SYNTAX, 0);
        fault("sizE 8 1;", SYNTAX, 0);
        fault(HEAD + "Let x 1;", SYNTAX, 9);
        fault("let x 1;", SYNTAX, 0);
    }

    private static void longestTokens() {
        DUE.sentence("TOKENS, the longest that can be; a longer one is no TOKEN");
        fault("size81;", SYNTAX, 6);
        fault("size 81;", SYNTAX, 7);
        fault("sizeofit 8 1;", SYNTAX, 0);
        fault(HEAD + "letx 1;", SYNTAX, 9);
        fault(HEAD + "let rootx 1;let y rootx(4);", SYNTAX, 32);
        fault(HEAD + "let x 12;let y x3;", SYNTAX, 25);
        DUE.same("12 is one INT", last(LINE + "12;"), new TaperedNumbers().quotient(8, 1, 12, 1));
        DUE.same("0012 is one INT", last(LINE + "0012;"), new TaperedNumbers().quotient(8, 1, 12, 1));
        fault(HEAD + "let ab 1;let a 2;let y ab;", 0, -1);
        fault(LINE + "1;letletle 1;", SYNTAX, 17);
        fault(LINE + "rootroot(1);", SYNTAX, 23);
        fault(LINE + "abcdefghi;", SYNTAX, 15);
    }

    // ---- the form of a text

    /** Each row of few tokens behind each of some heads, against the form told with a stack. */
    private static void everyShortText() {
        DUE.sentence("SYNTAX: a TOKEN, or what is none, with which no text goes on; the text's end: its length");
        String[] tokens = {"size", "let", "root", "sum", "x", "7", ";", "+", "-", "*", "/", "(", ")", ",", "12345"};
        String[] heads = {"", "size ", "size 3 2 ", "size 3 2;", "size 3 2;let ", "size 3 2;let x ", "size 3 2;let x 1 ",
            "size 3 2;let x(1 ", "size 3 2;let x sum(1,2 ", "size 3 2;let x root(1) "};
        for (String head : heads) {
            everyShortText(head, tokens, 3);
        }
    }

    private static void everyShortText(String text, String[] tokens, int more) {
        int[] due = TextModel.formFault(text);
        TaperedNumbers x = new TaperedNumbers();
        int number = Due.read(x, text);
        DUE.same("read of " + text, number <= ROOM ? number : 0, due == null ? 0 : due[0]);
        if (due != null) {
            DUE.same("place of " + text, x.place(), due[1]);
        }
        // Behind a fault's place nothing is told any more.
        if (more > 0 && (due == null || due[1] >= text.length())) {
            for (String token : tokens) {
                everyShortText(text + token + " ", tokens, more - 1);
            }
        }
    }

    private static void minusAhead() {
        DUE.sentence("EXPR: ['-'] TERM {('+' | '-') TERM}");
        good(LINE + "-1;");
        good(LINE + "(-1)*(-1)-(-1);");
        fault(LINE + "--1;", SYNTAX, 16);
        fault(LINE + "+1;", SYNTAX, 15);
        fault(LINE + "1+-1;", SYNTAX, 17);
        fault(LINE + "1*-1;", SYNTAX, 17);
        fault(LINE + "-;", SYNTAX, 16);
        DUE.sentence("ATOM: 'sum' '(' EXPR ',' EXPR {',' EXPR ',' EXPR} ')'");
        for (int many = 0; many <= 9; many++) {
            String inside = many == 0 ? "" : "1" + ",1".repeat(many - 1);
            boolean even = many > 0 && many % 2 == 0;
            fault(LINE + "sum(" + inside + ");", even ? 0 : SYNTAX, even ? -1 : 19 + inside.length());
        }
        fault(LINE + "sum(1,1;", SYNTAX, 22);
        fault(LINE + "sum 1,1);", SYNTAX, 19);
        fault(LINE + "sum(1,1", SYNTAX, 22);
        DUE.sentence("ATOM: 'root' '(' EXPR ')'");
        fault(LINE + "root();", SYNTAX, 20);
        fault(LINE + "root(1,1);", SYNTAX, 21);
        fault(LINE + "root(1;", SYNTAX, 21);
        DUE.sentence("text: 'size' INT INT ';' {'let' NAME EXPR ';'}");
        good(HEAD);
        fault(HEAD + ";", SYNTAX, 9);
        fault(HEAD + HEAD, SYNTAX, 9);
        fault(LINE + "1", SYNTAX, 16);
        fault(LINE + "1;;", SYNTAX, 17);
        fault(LINE + "1,", SYNTAX, 16);
        fault("size x 1;", SYNTAX, 5);
        fault("size 8;", SYNTAX, 6);
        fault("size 8 1 1;", SYNTAX, 9);
        fault("size 8 x;", SYNTAX, 7);
    }

    private static void sizesAndWidths() {
        DUE.sentence("SIZE n 3 .. 12, WIDE w 0 .. 2; WRONG: (at the INT) a SIZE, a WIDE that is none");
        int[] numbers = {0, 1, 2, 3, 4, 11, 12, 13, 14, 99, 256 + 8, 9999};
        for (int n : numbers) {
            for (int w : numbers) {
                boolean size = n >= 3 && n <= 12;
                boolean wide = w >= 0 && w <= 2;
                TaperedNumbers x = new TaperedNumbers();
                int place = size ? 5 + ("" + n).length() + 1 : 5;
                fault(x, "size " + n + " " + w + ";", size && wide ? 0 : WRONG, size && wide ? -1 : place);
                DUE.same("SIZE", x.count(0), size && wide ? n : 8);
                DUE.same("WIDE", x.count(1), size && wide ? w : 1);
            }
        }
    }

    // ---- names and what they are

    private static void eightNames() {
        DUE.sentence("NAMES, 8 at most, numbered from 0 on as they stand; let: -100000: no such ones");
        StringBuilder text = new StringBuilder("size 12 2;");
        for (int names = 0; names <= 8; names++) {
            TaperedNumbers x = new TaperedNumbers();
            fault(x, text.toString(), 0, -1);
            DUE.same("NAMES", x.count(2), names);
            for (int i = 0; i < 8; i++) {
                DUE.same("let(" + i + ",1) of " + names, x.let(i, 1), i < names ? 8 - i : NO_SUCH);
                DUE.same("let(" + i + ",0) of " + names, x.let(i, 0), i < names ? x.quotient(12, 2, 8 - i, 1) : NO_SUCH);
            }
            for (int i : new int[] {-1, 8, 9, Integer.MIN_VALUE, Integer.MAX_VALUE}) {
                DUE.same("let(" + i + ",0)", x.let(i, 0), NO_SUCH);
            }
            text.append("let ").append((char) ('z' - names)).append(' ').append(8 - names).append(';');
        }
        fault(text.toString(), ROOM, text.length() - 8);
        DUE.sentence("let: 1 WHOLE (-2 of NIL), 2 MANT, 3 POWER (2, 3: -2 of 0, NIL)");
        TaperedNumbers x = new TaperedNumbers();
        fault(x, "size 12 1;let nil 1/0;let nought 0;let less -2;let more 6/16;", 0, -1);
        int[][] due = {{2048, -2, -2, -2}, {0, 0, -2, -2}, {x.quotient(12, 1, -2, 1), -2, 1, 1}, {x.quotient(12, 1, 3, 8), 0, 3, -3}};
        for (int i = 0; i < due.length; i++) {
            for (int what = 0; what <= 3; what++) {
                DUE.same("let(" + i + "," + what + ")", x.let(i, what), due[i][what]);
            }
        }
    }

    private static void wholeNumbers() {
        DUE.sentence("an INT the ROW for it");
        List<Integer> numbers = new ArrayList<>();
        for (int i = 0; i <= 40; i++) {
            numbers.add(i);
        }
        for (int power = 64; power <= 8192; power *= 2) {
            for (int i : new int[] {-1, 0, 1, power / 64, power / 32, power / 64 * 3, power / 2 - 1}) {
                numbers.add(Math.min(power + i, 9999));
            }
        }
        numbers.add(9998);
        for (int number : numbers) {
            TaperedNumbers x = new TaperedNumbers();
            Due.read(x, "size 3 0;let x " + number + ";");
            for (int n = 3; n <= 12; n++) {
                for (int w = 0; w <= 2; w++) {
                    x.resize(n, w);
                    int due = Model.rounded(n, w, Model.Frac.of(number, 1));
                    DUE.same("the ROW of " + number + " by " + n + "," + w, x.let(0, 0), due);
                }
            }
        }
    }

    private static void toldAhead() {
        DUE.sentence("a NAME that is told ahead what it is; NAME: (at it) in an EXPR none told ahead");
        DUE.same("all the way", last("size 12 2;let a 3;let b a;let c b;let d c;let e d;let f e;let g f;let h a*b*g;"),
            new TaperedNumbers().quotient(12, 2, 27, 1));
        fault(LINE + "x;", NAME, 15);
        fault(LINE + "1+x;", NAME, 17);
        fault(LINE + "y;let y 1;", NAME, 15);
        fault(LINE + "1;let y z;let z y;", NAME, 23);
        fault(LINE + "root(y);", NAME, 20);
        fault(LINE + "sum(1,y);", NAME, 21);
        fault(LINE + "-y;", NAME, 16);
        good(LINE + "1;let y x+x*x/x-(x);");
        // What a text with a FAULT, or the text ahead, has told is not told.
        TaperedNumbers x = new TaperedNumbers();
        fault(x, HEAD + "let a 1;let b c;", NAME, 23);
        fault(x, HEAD + "let b a;", NAME, 15);
        fault(x, HEAD + "let a 1;", 0, -1);
        fault(x, HEAD + "let b a;", NAME, 15);
    }

    private static void negatives() {
        DUE.sentence("'-' ahead of a TERM: its NEGATIVE (of 0 and NIL itself)");
        TaperedNumbers x = new TaperedNumbers();
        for (int n = 3; n <= 12; n++) {
            int nil = 1 << (n - 1);
            fault(x, "size " + n + " 1;let a -0;let b -(1/0);let c -(1);let d -9999;let e -(-9999);let f -1/4*0;", 0, -1);
            DUE.same("of 0", x.let(0, 0), 0);
            DUE.same("of NIL", x.let(1, 0), nil);
            DUE.same("of 1", x.let(2, 0), (1 << n) - (1 << (n - 2)));
            DUE.same("beyond", x.let(3, 0), n <= 7 ? nil + 1 : x.quotient(n, 1, -9999, 1));
            DUE.same("beyond", x.let(4, 0), n <= 7 ? nil - 1 : x.quotient(n, 1, 9999, 1));
            DUE.same("of 0", x.let(5, 0), 0);
        }
        DUE.same("of the TERM alone", last("size 12 2;let x -2+5;"), x.quotient(12, 2, 3, 1));
        DUE.same("of the whole TERM", last("size 12 2;let x -2*3-1;"), x.quotient(12, 2, -7, 1));
    }

    private static void order() {
        DUE.sentence("EXPR of TERMS, TERM of ATOMS, one behind the other");
        String[] texts = {"8-4-2", "8/4/2", "8-4/2", "8/4*2", "2+3*4", "(2+3)*4", "8-(4-2)", "8/(4/2)", "2*3+4*5-6/3", "1-2+3", "-8/2-1"};
        int[] due = {2, 1, 6, 4, 14, 20, 6, 4, 24, 2, -5};
        for (int i = 0; i < texts.length; i++) {
            DUE.same(texts[i], last("size 12 2;let x " + texts[i] + ";"), new TaperedNumbers().quotient(12, 2, due[i], 1));
        }
        DUE.sentence("what is ROUNDED of both, of the one");
        // 17 is 16 in SIZE 8, WIDE 1 (tie to even), so one that is rounded at each sign tells it.
        TaperedNumbers x = new TaperedNumbers();
        int sixteen = x.both(8, 1, x.quotient(8, 1, 16, 1), 64, 0);
        DUE.same("16 and 1 and 1", last(LINE + "16+1+1;"), x.both(8, 1, sixteen, 64, 0));
        DUE.same("root of 2, of it", last(LINE + "root(root(2));"), x.root(8, 1, x.root(8, 1, 80)));
        DUE.same("root of 0", last(LINE + "root(0);"), 0);
        DUE.same("root of what is below 0", last(LINE + "root(-1);"), 128);
        DUE.same("by 0", last(LINE + "1/(2-2);"), 128);
        DUE.same("0 by 0", last(LINE + "0/0;"), 128);
        DUE.same("0 by 1", last(LINE + "0/1;"), 0);
        DUE.same("NIL by NIL", last(LINE + "(1/0)/(1/0);"), 128);
    }

    private static void sums() {
        DUE.sentence("'sum': of each two the product, all added without loss, ROUNDED then");
        TaperedNumbers x = new TaperedNumbers();
        DUE.same("lost and kept", last("size 8 0;let x sum(64,64,1/64,1/64,-64,64);"), 1);
        DUE.same("the other way round", last("size 8 0;let x sum(-64,64,1/64,1/64,64,64);"), 1);
        DUE.same("all goes", last("size 12 2;let x sum(9999,9999,-9999,9999);"), 0);
        DUE.same("one product", last("size 8 1;let x sum(3,5);"), x.both(8, 1, x.quotient(8, 1, 3, 1), x.quotient(8, 1, 5, 1), 2));
        DUE.same("halfway", last("size 4 0;let x sum(1,1,1/2,1/2);"), 4);
        DUE.same("more than halfway", last("size 4 0;let x sum(1,1,1/2,1/2,1/4,1/4);"), 5);
        DUE.same("less than halfway", last("size 4 0;let x sum(1,1,1/2,1/2,-1/4,1/4);"), 4);
        String most = "size 12 2;let x -(sum(1,1" + ",1,1".repeat(96) + "));";
        DUE.same("the most that a text has room for", last(most), x.quotient(12, 2, -97, 1));
        // g is 2 to the 40, b 2 to the -40: what is least counts far behind what is greatest.
        String great = "size 12 2;let g 9999*9999*9999*9999;let b 1/g;let x sum(g,g" + ",g,g".repeat(30) + ",b,PART" + ",-g,g".repeat(31) + ");";
        DUE.same("2 to the -80: 1", last(great.replace("PART", "b")), 1);
        DUE.same("2 to the -36", last(great.replace("PART", "16")), 2);
        DUE.same("-2 to the -36", last(great.replace("PART", "-16")), 4094);
        DUE.same("0", last(great.replace("PART", "0")), 0);
        DUE.sentence("NIL comes of a 'sum' with NIL");
        String[] four = {"1", "2", "3", "4"};
        for (int i = 0; i < 4; i++) {
            String[] one = four.clone();
            one[i] = "1/0";
            DUE.same("NIL at " + i, last(LINE + "sum(" + String.join(",", one) + ");"), 128);
        }
        DUE.same("0 times NIL", last(LINE + "sum(0,1/0);"), 128);
        DUE.same("NIL is gone for the next", last(LINE + "sum(0,1/0);let y sum(1,1);"), 64);
    }

    // ---- faults

    private static void firstByPlace() {
        DUE.sentence("FAULTS of a text, the first by its place (a byte; the text's end: its length)");
        for (int end = 0; end <= 20; end++) {
            String text = "size 8 1;let abc 12;".substring(0, end);
            boolean whole = end == 9 || end == 20;
            fault(text, whole ? 0 : SYNTAX, whole ? -1 : end == 0 ? 0 : isWordBegun(end) ? 0 : isLetBegun(end) ? 9 : end);
            if (!whole && end != 8) {
                boolean wordBegun = isWordBegun(end) && end > 0;
                fault(text + " \n ", SYNTAX, wordBegun ? 0 : isLetBegun(end) ? 9 : end + 3);
            }
        }
        fault("size 8 1;let x 1;!let x !;", SYNTAX, 17);
        fault("! size", SYNTAX, 0);
        String nine = "let a 1;let b 1;let c 1;let d 1;let e 1;let f 1;let g 1;let h 1;let i 1;";
        fault(HEAD + nine + "!", ROOM, 9 + 64);
        fault(HEAD + "!" + nine, SYNTAX, 9);
        fault(LINE + "(((((((((1;", ROOM, 23);
        fault(LINE + ")(((((((((1;", SYNTAX, 15);
        fault(HEAD + nine.replace("h 1", "h (((((((((1"), ROOM, 9 + 56 + 6 + 8);
    }

    /** A begun word is a NAME, and no text begins with it. */
    private static boolean isWordBegun(int end) {
        return end < 4;
    }

    private static boolean isLetBegun(int end) {
        return end == 10 || end == 11;
    }

    private static final String MANY = LINE + "1" + "+1".repeat(196);

    private static void leastOfOnePlace() {
        DUE.sentence("FAULTS, of one place the least");
        DUE.same("399 tokens' end", MANY.length(), 15 + 393);
        // The 401st TOKEN, the 9th 'let', the 9th ( at places where no text goes on with them.
        fault(MANY + "+ 1 1", ROOM, 15 + 393 + 2);
        fault(MANY + "+ )", SYNTAX, 15 + 393 + 2);
        fault(MANY + "; 1", SYNTAX, 15 + 393 + 2);
        fault(MANY + "; size", SYNTAX, 15 + 393 + 2);
        fault(MANY + "+ !", SYNTAX, 15 + 393 + 2);
        String eight = HEAD + "let a 1;let b 1;let c 1;let d 1;let e 1;let f 1;let g 1;let h 1";
        fault(eight + " let i 1;", SYNTAX, eight.length() + 1);
        fault(eight + "+ let", SYNTAX, eight.length() + 2);
        fault(eight + "; let", ROOM, eight.length() + 2);
        fault(LINE + "((((((((1(", SYNTAX, 15 + 9);
        fault(LINE + "(((((((()(", SYNTAX, 15 + 8);
        fault(LINE + "((((((((1+(", ROOM, 15 + 10);
    }

    private static void tokens401() {
        DUE.sentence("ROOM: a 401st TOKEN");
        good(MANY + ";");
        fault(MANY + "+1", ROOM, MANY.length() + 1);
        fault(MANY + "+x;", ROOM, MANY.length() + 1);
        fault(MANY + "+(1);", ROOM, MANY.length() + 1);
        fault(MANY + "+root(1);", ROOM, MANY.length() + 1);
        fault(MANY + "; let y 1;", ROOM, MANY.length() + 2);
        fault(MANY + "*", SYNTAX, MANY.length() + 1);
        fault(MANY + ";   ", 0, -1);
        fault(MANY + ";" + " ".repeat(1500) + "let", ROOM, MANY.length() + 1501);
        for (String end : new String[] {"*1;", "/1;", "-1;", ");"}) {
            String opened = end.equals(");") ? LINE + "(1" + "+1".repeat(195) : MANY.substring(0, MANY.length() - 2);
            good(opened + end);
        }
        fault(LINE + "(1" + "+1".repeat(196) + ");", ROOM, 15 + 394);
        fault(LINE + "(1" + "+1".repeat(196) + ")", ROOM, 15 + 394);
        fault(LINE + "(1" + "+1".repeat(196) + ";", SYNTAX, 15 + 394);
        String lines = HEAD;
        for (char name = 'a'; name < 'h'; name++) {
            lines += "let " + name + " 1" + "+1".repeat(23) + ";";
        }
        // 4, and seven times 50: 46 are left.
        good(lines + "let h 1" + "+1".repeat(21) + ";");
        good(lines + "let h (1" + "+1".repeat(20) + ");");
        good(lines + "let h-1" + "+1".repeat(20) + ";");
        fault(lines + "let h-1" + "+1".repeat(21) + ";", ROOM, lines.length() + 49);
        fault(lines + "let h(1" + "+1".repeat(21) + ");", ROOM, lines.length() + 49);
    }

    private static void lets9() {
        DUE.sentence("ROOM: a 9th 'let' (at the line's first word)");
        String lines = "";
        for (int i = 1; i <= 9; i++) {
            lines += " let a" + (char) ('a' + i) + " " + i + ";";
            fault(HEAD + lines, i == 9 ? ROOM : 0, i == 9 ? HEAD.length() + 8 * 10 + 1 : -1);
        }
        String eight = HEAD + lines.substring(0, 8 * 10);
        DUE.same("eight", Due.read(new TaperedNumbers(), eight), 0);
        fault(eight + "let", ROOM, eight.length());
        fault(eight + "let!", ROOM, eight.length());
        fault(eight + "\n\nlet x 1; let y 2;", ROOM, eight.length() + 2);
        fault(eight + "letx", SYNTAX, eight.length());
        fault(eight + "x let", SYNTAX, eight.length());
        fault(eight + "    ", 0, -1);
    }

    private static void open9() {
        DUE.sentence("ROOM: a 9th ( that is open at one time (at it)");
        for (int open = 1; open <= 9; open++) {
            String opened = LINE + "(".repeat(open) + "1";
            fault(opened + ")".repeat(open) + ";", open == 9 ? ROOM : 0, open == 9 ? 15 + 8 : -1);
            fault(LINE + "root(".repeat(open) + "1" + ")".repeat(open) + ";", open == 9 ? ROOM : 0, open == 9 ? 15 + 44 : -1);
            fault(LINE + "sum(".repeat(open) + "1" + ",1)".repeat(open) + ";", open == 9 ? ROOM : 0, open == 9 ? 15 + 35 : -1);
        }
        String eight = "(".repeat(8) + "1" + ")".repeat(8);
        good(LINE + eight + "+" + eight + "*" + eight + ";let y " + eight + ";");
        good(LINE + "(1)+".repeat(20) + "(1);");
        good(LINE + "(((((((" + "(1)+".repeat(20) + "(1))))))));");
        String seven = "(".repeat(7) + "1" + ")".repeat(7);
        good(LINE + "sum(" + seven + "," + seven + ");");
        fault(LINE + "sum(1,((((((((1)))))))));", ROOM, 15 + 6 + 7);
        fault(LINE + "(((((((root(sum(1,1))))))))));", ROOM, 15 + 15);
        fault(LINE + "(((((((1)+(((1", ROOM, 15 + 12);
        fault(LINE + "(((((((1)+((1", SYNTAX, 15 + 13);
    }

    private static void laterFaults() {
        DUE.sentence("If there is none, likewise: TWICE, NAME, WRONG, the first by its place");
        String late = "size 13 3;let x y;let x x;";
        fault(late, WRONG, 5);
        fault(late.replace("13", "12"), WRONG, 8);
        fault(late.replace("13 3", "12 2"), NAME, 16);
        fault(late.replace("13 3", "12 2").replace("y", "1"), TWICE, 22);
        fault("size 8 1;let x 1;let x y;", TWICE, 21);
        fault("size 8 1;let x y;let x 1;", NAME, 15);
        for (String end : new String[] {"!", "let", ")", "let z ((((((((", "1"}) {
            int place = switch (end) {
                case "let" -> late.length() + 3;
                case "let z ((((((((" -> late.length() + 14;
                default -> late.length();
            };
            fault(late + end, SYNTAX, place);
        }
        fault(late + "let z (((((((((", ROOM, late.length() + 14);
        fault(late + "let a 1;let b 1;let c 1;let d 1;let e 1;let f 1;let g 1;", ROOM, late.length() + 48);
        DUE.sentence("TWICE: (at it) a 'let' NAME told already");
        String eight = "let a 1;let b 1;let c 1;let d 1;let e 1;let f 1;let g 1;let ";
        for (char one = 'a'; one <= 'h'; one++) {
            fault(HEAD + eight + one + " 1;", one == 'h' ? 0 : TWICE, one == 'h' ? -1 : 9 + 56 + 4);
        }
        fault(HEAD + "let a 1;let a 2;let a b;", TWICE, 21);
        fault(HEAD + "let a 1;let\n\ta 2;", TWICE, 22);
    }

    private static void faultChangesNothing() {
        String[] faults = {"", "size 5 0;let a 1;!", "size 5 0;let a (((((((((1", "size 5 0;let a 1;let a 2;", "size 5 0;let a 1;let b c;",
            "size 13 0;let a 1;", "size 5 3;let a 1;", MANY + "+1;"};
        int[] numbers = {SYNTAX, SYNTAX, ROOM, TWICE, NAME, WRONG, WRONG, ROOM};
        DUE.sentence("A text with a FAULT changes nothing but the tape");
        for (int i = 0; i < faults.length; i++) {
            String text = faults[i];
            Twins twins = new Twins(DUE).both(x -> {
                Due.read(x, "size 7 2;let a 3;let b 10/a;let c 1/0;");
                x.store(32, 40, false);
                x.hold(2);
                x.resize(9, 0);
                x.store(3, 256, true);
                // The same place for both: only the one's tape has a text.
                x.read();
                Due.feed(x, "size 6 0;let q 2;");
                x.hold(0);
                x.back(17);
            });
            DUE.same("read of " + text, Due.read(twins.one(), text), numbers[i]);
            DUE.same("the tape", twins.one().count(6), 0);
            twins.one().read();
            twins.alike("a FAULT of " + text);
        }
    }

    private static void inPlaceOfTheOneAhead() {
        DUE.sentence("else it is in place of the one ahead; the STORE is 0; nothing can be undone, SLOTS hold nothing");
        for (int row : new int[] {72, 128}) {
            TaperedNumbers x = new TaperedNumbers();
            Due.read(x, "size 8 1;let a 3;let b 1/0;");
            for (int i = 0; i < 45; i++) {
                x.store(64, row, false);
            }
            for (int slot = 0; slot < 3; slot++) {
                x.hold(slot);
            }
            fault(x, "size 5 2;let z 1;", 0, -1);
            int[] due = {5, 2, 1, 0, 0, 1, 0, 0, 0, -1000, 0};
            for (int what = 0; what < due.length; what++) {
                DUE.same("count(" + what + ")", x.count(what), due[what]);
            }
            DUE.same("z", x.let(0, 0), 8);
            DUE.same("a is none", x.let(1, 0), NO_SUCH);
            DUE.no("undo", x.undo());
            DUE.no("clear", x.clear());
            for (int slot = 0; slot < 3; slot++) {
                DUE.no("restore", x.restore(slot));
            }
            for (int i = -100; i <= 100; i++) {
                DUE.same("bit(" + i + ")", x.bit(i), 0);
            }
            DUE.yes("store by the new SIZE", x.store(31, 31, false));
            DUE.no("store by the new SIZE", x.store(32, 31, false));
        }
    }
}
