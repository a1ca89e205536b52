/** The edges of the tape and of TOKENS: each sentence of promises 2 to 5 and of the head of part I that names one. */
public final class EdgeTapeTest extends EdgeTexts {
    public static void main(String[] args) {
        tapeFills();
        tapeShrinks();
        tapeIsRead();
        placeOfTheLatest();
        longestText();
        blanks();
        letters();
        digits();
        signs();
        words();
        longestTokens();
        DUE.end();
    }

    private static TaperedNumbers fed(String text) {
        TaperedNumbers x = new TaperedNumbers();
        DUE.same("fed", Due.feed(x, text), text.length());
        return x;
    }

    private static void tapeFills() {
        DUE.sentence("feed: Twenty bytes, the highest of a first, come behind the tape");
        for (int i = 0; i < 20; i++) {
            for (int value : new int[] {127, 128, 255, 0}) {
                int[] fives = {0x20202020, 0x20202020, 0x20202020, 0x20202020, 0x20202020};
                int shift = 24 - i % 4 * 8;
                fives[i / 4] = fives[i / 4] & ~(255 << shift) | value << shift;
                TaperedNumbers x = new TaperedNumbers();
                DUE.same("feed", x.feed(fives[0], fives[1], fives[2], fives[3], fives[4]), 20);
                DUE.same("read of byte " + i, x.read(), SYNTAX);
                DUE.same("place of byte " + i, x.place(), i);
            }
        }
        TaperedNumbers twenty = fed("size 8 1;let a 1234;");
        DUE.same("twenty bytes", twenty.count(6), 20);
        DUE.same("read", twenty.read(), 0);
        DUE.same("1234", twenty.let(0, 0), twenty.quotient(8, 1, 1234, 1));

        DUE.sentence("feed: NONE, and nothing comes, if it would have more than 2,000");
        for (int length = 1961; length <= 2000; length++) {
            TaperedNumbers x = fed("size 4 1;" + " ".repeat(length - 9));
            boolean fits = length <= 1980;
            DUE.same("feed at " + length, x.feed(-1, -1, -1, -1, -1), fits ? length + 20 : -1);
            DUE.same("tape at " + length, x.count(6), fits ? length + 20 : length);
            DUE.same("read at " + length, x.read(), fits ? SYNTAX : 0);
            DUE.same("place at " + length, x.place(), fits ? length : -1);
        }
    }

    private static void tapeShrinks() {
        DUE.sentence("back: The last n bytes of the tape go: how many it has");
        TaperedNumbers x = fed("size 4 1;let a 2;!!");
        DUE.same("back(0)", x.back(0), 19);
        DUE.same("back(2)", x.back(2), 17);
        DUE.same("behind what is left", Due.feed(x, "let b 1;"), 25);
        DUE.same("read", x.read(), 0);
        DUE.same("b", x.let(1, 0), 4);
        Due.feed(x, "abc");
        DUE.same("back(3), all", x.back(3), 0);
        DUE.same("back(0), none", x.back(0), 0);

        DUE.sentence("back: NONE, and nothing goes, if it has not so many, or n is below 0");
        DUE.same("back(1) of none", x.back(1), -1);
        Due.feed(x, HEAD);
        for (int n : new int[] {10, 11, 2000, 2001, Integer.MAX_VALUE, -1, -9, Integer.MIN_VALUE}) {
            DUE.same("back(" + n + ") of 9", x.back(n), -1);
            DUE.same("nothing goes", x.count(6), 9);
        }
        DUE.same("nothing went", x.read(), 0);
        TaperedNumbers full = fed(" ".repeat(2000));
        DUE.same("back(2001) of 2000", full.back(2001), -1);
        DUE.same("back(2000) of 2000", full.back(2000), 0);
    }

    private static void tapeIsRead() {
        DUE.sentence("read: The tape, which is empty then, is read");
        TaperedNumbers x = new TaperedNumbers();
        for (String text : new String[] {HEAD, "size 8", HEAD + "let a b;", "size 2 1;", "", " ".repeat(2000)}) {
            Due.read(x, text);
            DUE.same("empty", x.count(6), 0);
            DUE.same("back(1)", x.back(1), -1);
            DUE.fault(x, "", SYNTAX, 0);
        }
        DUE.same("twenty bytes come behind nothing", x.feed(0, 0, 0, 0, 0), 20);
    }

    private static void placeOfTheLatest() {
        DUE.sentence("place: The byte of the latest read()'s FAULT; NONE without");
        TaperedNumbers x = new TaperedNumbers();
        DUE.same("no read()", x.place(), -1);
        DUE.fault(x, "size 8 1;let", SYNTAX, 12);
        Due.feed(x, "size 5 3;");
        x.back(30);
        x.store(1, 1, false);
        x.undo();
        DUE.same("no other read()", x.place(), 12);
        DUE.fault(x, "", WRONG, 7);
        DUE.fault(x, "", SYNTAX, 0);
        DUE.fault(x, HEAD, 0, -1);
        DUE.fault(x, "!", SYNTAX, 0);
        DUE.fault(x, HEAD, 0, -1);
    }

    private static void longestText() {
        DUE.sentence("A TEXT has 2,000 bytes at most");
        String text = "size 4 1;let a" + " ".repeat(1984) + "2;";
        DUE.same("bytes", text.length(), 2000);
        TaperedNumbers x = new TaperedNumbers();
        DUE.fault(x, text, 0, -1);
        DUE.same("its last NAME", x.let(0, 1), 2);
        fault(" ".repeat(1991) + HEAD, 0, -1);
        fault(" ".repeat(2000), SYNTAX, 2000);
        fault(" ".repeat(1999) + "!", SYNTAX, 1999);
        fault(text.substring(0, 1999) + "!", SYNTAX, 1999);
        fault(text.substring(0, 1999) + " ", SYNTAX, 2000);
        fault(HEAD + "let " + "a".repeat(1987), SYNTAX, 13);
        fault("size " + "1".repeat(1995), SYNTAX, 5);
        fault(HEAD + "let a " + "(".repeat(1985), ROOM, 15 + 8);
        fault(HEAD + "let a 1" + "+1".repeat(992), ROOM, 15 + 394);
    }

    // ---- tokens

    private static void blanks() {
        DUE.sentence("TOKENS with blanks (9, 10, 13, 32) between or not");
        for (int value = 0; value < 256; value++) {
            char one = (char) value;
            boolean blank = value == 9 || value == 10 || value == 13 || value == 32;
            fault(one + HEAD, blank ? 0 : SYNTAX, blank ? -1 : 0);
            boolean letter = one >= 'a' && one <= 'z';
            boolean digit = one >= '0' && one <= '9';
            boolean nought = one == '0';
            fault("size" + one + "8 1;", blank || nought ? 0 : digit ? WRONG : SYNTAX, blank || nought ? -1 : letter ? 0 : 4);
            fault("size 8" + one + "1;", blank ? 0 : SYNTAX, blank ? -1 : digit ? 8 : 6);
            fault("size 8 1" + one + " ;", blank ? 0 : digit ? WRONG : SYNTAX, blank ? -1 : digit ? 7 : one == ';' ? 10 : 8);
            fault(HEAD + one, blank ? 0 : SYNTAX, blank ? -1 : 9);
        }
        String[] parts = {"size", "8", "1", ";", "let", "x", "-", "(", "root", "(", "2", ")", "+", "sum", "(", "3", ",", "4", ")",
            "/", "5", ")", "*", "6", ";", "let", "y", "x", ";"};
        good(String.join("\t\n\r ", parts));
        good(String.join("\n", parts) + "\r\n\r\n");
        good("size 8 1;let x-(root(2)+sum(3,4)/5)*6;let y x;");
        good("size8 1;let x1;let y2;");
    }

    private static void letters() {
        DUE.sentence("NAMES (letters a .. z, 8 at most)");
        for (int value = 0; value < 256; value++) {
            char one = (char) value;
            boolean letter = one >= 'a' && one <= 'z';
            boolean blank = value == 9 || value == 10 || value == 13 || value == 32;
            fault(HEAD + "let " + one + " 1;", letter ? 0 : SYNTAX, letter ? -1 : blank ? 15 : 13);
        }
        String all = "abcdefghijklmnopqrstuvwxyz";
        for (int length = 1; length <= 8; length++) {
            for (int from = 0; from + length <= 26; from++) {
                String name = all.substring(from, from + length);
                good(HEAD + "let " + name + " 3;let " + (name.equals("q") ? "z " : "q ") + name + ";");
            }
            fault(HEAD + "let " + "z".repeat(length) + " 1;let y " + "z".repeat(length) + ";", 0, -1);
        }
        for (int length = 9; length <= 40; length++) {
            fault(HEAD + "let " + "z".repeat(length) + " 1;", SYNTAX, 13);
            fault(LINE + "z".repeat(length) + ";", SYNTAX, 15);
        }
        // The first, the last, one more: each letter tells them apart.
        fault(HEAD + "let abcdefgh 1;let abcdefgi abcdefgh;let abcdefg abcdefgi;", 0, -1);
        fault(HEAD + "let zzzzzzzz 1;let zzzzzzz zzzzzzzz;let a zzzzzz;", NAME, 51);
        fault(HEAD + "let bbbbbbbb 1;let x abbbbbbb;", NAME, 30);
        fault(HEAD + "let a 1;let x aa;", NAME, 23);
        fault(HEAD + "let aa 1;let x a;", NAME, 24);
    }

    private static void digits() {
        DUE.sentence("INTS (1 to 4 digits)");
        for (int value = 0; value < 256; value++) {
            char one = (char) value;
            boolean letter = one >= 'a' && one <= 'z';
            boolean digit = one >= '0' && one <= '9';
            boolean blank = value == 9 || value == 10 || value == 13 || value == 32;
            boolean goesOn = blank || one == '-' || one == '(';
            fault(LINE + one + ";", digit ? 0 : letter ? NAME : SYNTAX, digit ? -1 : goesOn ? 16 : 15);
        }
        for (String number : new String[] {"0", "00", "000", "0000", "9999", "0001"}) {
            good(LINE + number + ";");
        }
        for (String number : new String[] {"00000", "10000", "99999", "000001", "4294967296", "18446744073709551616", "9".repeat(40)}) {
            fault(LINE + number + ";", SYNTAX, 15);
            fault("size " + number + " 1;", SYNTAX, 5);
            fault("size 8 " + number + ";", SYNTAX, 7);
        }
        fault(LINE + "12 34;", SYNTAX, 18);
        fault(LINE + "1-2;", 0, -1);
        fault("size -8 1;", SYNTAX, 5);
        fault("size 8 -1;", SYNTAX, 7);
    }

    private static void signs() {
        DUE.sentence("SIGNS ; + - * / ( ) ,");
        String[] fitting = {"1+1", "1-1", "1*1", "1/1", "(1)", "-1", "sum(1,1)", "root(1)"};
        for (String one : fitting) {
            good(LINE + one + ";");
        }
        for (char one : ".:=<>[]{}!\"#$%&'@^_`|~?\\".toCharArray()) {
            fault(LINE + "1" + one + "1;", SYNTAX, 16);
            fault(LINE + one + "1;", SYNTAX, 15);
            fault(HEAD + one, SYNTAX, 9);
        }
    }

    private static void words() {
        DUE.sentence("NAMES: none of the words in quotes");
        for (String word : new String[] {"size", "let", "root", "sum"}) {
            fault(HEAD + "let " + word + " 1;", SYNTAX, 13);
            boolean opens = word.equals("root") || word.equals("sum");
            fault(LINE + word + ";", SYNTAX, opens ? 15 + word.length() : 15);
            fault(LINE + word + " 1;", SYNTAX, opens ? 16 + word.length() : 15);
            for (String near : new String[] {word + "s", word + "a", "a" + word, word.substring(1), word.substring(0, word.length() - 1),
                word + word}) {
                good(HEAD + "let " + near + " 1;let q " + near + ";");
                fault(near + " 8 1;", SYNTAX, 0);
                fault(HEAD + near + " x 1;", SYNTAX, 9);
            }
        }
        fault("SIZE 8 1;", SYNTAX, 0);
        fault("sizE 8 1;", SYNTAX, 0);
        fault(HEAD + "Let x 1;", SYNTAX, 9);
        fault("let x 1;", SYNTAX, 0);
    }

    private static void longestTokens() {
        DUE.sentence("TOKENS, the longest that can be; a longer one is no TOKEN");
        fault("size81;", SYNTAX, 6);
        fault("size 81;", SYNTAX, 7);
        fault("sizeofit 8 1;", SYNTAX, 0);
        fault(HEAD + "letx 1;", SYNTAX, 9);
        fault(HEAD + "let rootx 1;let y rootx(4);", SYNTAX, 32);
        fault(HEAD + "let x 12;let y x3;", SYNTAX, 25);
        DUE.same("12 is one INT", last(LINE + "12;"), new TaperedNumbers().quotient(8, 1, 12, 1));
        DUE.same("0012 is one INT", last(LINE + "0012;"), new TaperedNumbers().quotient(8, 1, 12, 1));
        fault(HEAD + "let ab 1;let a 2;let y ab;", 0, -1);
        fault(LINE + "1;letletle 1;", SYNTAX, 17);
        fault(LINE + "rootroot(1);", SYNTAX, 23);
        fault(LINE + "abcdefghi;", SYNTAX, 15);
    }
}
