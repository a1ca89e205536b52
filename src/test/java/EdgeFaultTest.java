/** The edges of FAULTS: each sentence about them in part I that names one. */
public final class EdgeFaultTest extends EdgeTexts {
    public static void main(String[] args) {
        firstByPlace();
        leastOfOnePlace();
        tokens401();
        lets9();
        open9();
        laterFaults();
        faultChangesNothing();
        inPlaceOfTheOneAhead();
        DUE.end();
    }

    private static void firstByPlace() {
        DUE.sentence("FAULTS of a text, the first by its place (a byte; the text's end: its length)");
        // Of each beginning of the text: where it can't go on. -1: it is a text.
        int[] places = {0, 0, 0, 0, 4, 5, 6, 7, 8, -1, 9, 9, 12, 13, 14, 15, 16, 17, 18, 19, -1};
        for (int end = 0; end < places.length; end++) {
            String text = "size 8 1;let abc 12;".substring(0, end);
            int number = places[end] == -1 ? 0 : SYNTAX;
            fault(text, number, places[end]);
            fault(text + " \n\t\r", number, places[end] == end ? end + 4 : places[end]);
        }
        fault("size 8 1;let x 1;!let x !;", SYNTAX, 17);
        fault("! size", SYNTAX, 0);
        String nine = "let a 1;let b 1;let c 1;let d 1;let e 1;let f 1;let g 1;let h 1;let i 1;";
        fault(HEAD + nine + "!", ROOM, 9 + 64);
        fault(HEAD + "!" + nine, SYNTAX, 9);
        fault(LINE + "(((((((((1;", ROOM, 23);
        fault(LINE + ")(((((((((1;", SYNTAX, 15);
        fault(HEAD + nine.replace("h 1", "h (((((((((1"), ROOM, 9 + 56 + 6 + 8);
    }

    private static final String MANY = LINE + "1" + "+1".repeat(196);

    private static void leastOfOnePlace() {
        DUE.sentence("FAULTS, of one place the least");
        DUE.same("399 tokens' end", MANY.length(), 15 + 393);
        // The 401st TOKEN, the 9th 'let', the 9th ( at places where no text goes on with them.
        fault(MANY + "+ 1 1", ROOM, 15 + 393 + 2);
        fault(MANY + "+ )", SYNTAX, 15 + 393 + 2);
        fault(MANY + "; 1", SYNTAX, 15 + 393 + 2);
        fault(MANY + "; size", SYNTAX, 15 + 393 + 2);
        fault(MANY + "+ !", SYNTAX, 15 + 393 + 2);
        String eight = HEAD + "let a 1;let b 1;let c 1;let d 1;let e 1;let f 1;let g 1;let h 1";
        fault(eight + " let i 1;", SYNTAX, eight.length() + 1);
        fault(eight + "+ let", SYNTAX, eight.length() + 2);
        fault(eight + "; let", ROOM, eight.length() + 2);
        fault(LINE + "((((((((1(", SYNTAX, 15 + 9);
        fault(LINE + "(((((((()(", SYNTAX, 15 + 8);
        fault(LINE + "((((((((1+(", ROOM, 15 + 10);
    }

    private static void tokens401() {
        DUE.sentence("ROOM: a 401st TOKEN");
        good(MANY + ";");
        fault(MANY + "+1", ROOM, MANY.length() + 1);
        fault(MANY + "+x;", ROOM, MANY.length() + 1);
        fault(MANY + "+(1);", ROOM, MANY.length() + 1);
        fault(MANY + "+root(1);", ROOM, MANY.length() + 1);
        fault(MANY + "; let y 1;", ROOM, MANY.length() + 2);
        fault(MANY + "*", SYNTAX, MANY.length() + 1);
        fault(MANY + ";   ", 0, -1);
        fault(MANY + ";" + " ".repeat(1500) + "let", ROOM, MANY.length() + 1501);
        for (String end : new String[] {"*1;", "/1;", "-1;", ");"}) {
            String opened = end.equals(");") ? LINE + "(1" + "+1".repeat(195) : MANY.substring(0, MANY.length() - 2);
            good(opened + end);
        }
        fault(LINE + "(1" + "+1".repeat(196) + ");", ROOM, 15 + 394);
        fault(LINE + "(1" + "+1".repeat(196) + ")", ROOM, 15 + 394);
        fault(LINE + "(1" + "+1".repeat(196) + ";", SYNTAX, 15 + 394);
        String lines = HEAD;
        for (char name = 'a'; name < 'h'; name++) {
            lines += "let " + name + " 1" + "+1".repeat(23) + ";";
        }
        // 4, and seven times 50: 46 are left.
        good(lines + "let h 1" + "+1".repeat(21) + ";");
        good(lines + "let h (1" + "+1".repeat(20) + ");");
        good(lines + "let h-1" + "+1".repeat(20) + ";");
        fault(lines + "let h-1" + "+1".repeat(21) + ";", ROOM, lines.length() + 49);
        fault(lines + "let h(1" + "+1".repeat(21) + ");", ROOM, lines.length() + 49);
    }

    private static void lets9() {
        DUE.sentence("ROOM: a 9th 'let' (at the line's first word)");
        String lines = "";
        for (int i = 1; i <= 9; i++) {
            lines += " let a" + (char) ('a' + i) + " " + i + ";";
            fault(HEAD + lines, i == 9 ? ROOM : 0, i == 9 ? HEAD.length() + 8 * 10 + 1 : -1);
        }
        String eight = HEAD + lines.substring(0, 8 * 10);
        DUE.same("eight", Due.read(new TaperedNumbers(), eight), 0);
        fault(eight + "let", ROOM, eight.length());
        fault(eight + "let!", ROOM, eight.length());
        fault(eight + "\n\nlet x 1; let y 2;", ROOM, eight.length() + 2);
        fault(eight + "letx", SYNTAX, eight.length());
        fault(eight + "x let", SYNTAX, eight.length());
        fault(eight + "    ", 0, -1);
    }

    private static void open9() {
        DUE.sentence("ROOM: a 9th ( that is open at one time (at it)");
        for (int open = 1; open <= 9; open++) {
            String opened = LINE + "(".repeat(open) + "1";
            fault(opened + ")".repeat(open) + ";", open == 9 ? ROOM : 0, open == 9 ? 15 + 8 : -1);
            fault(LINE + "root(".repeat(open) + "1" + ")".repeat(open) + ";", open == 9 ? ROOM : 0, open == 9 ? 15 + 44 : -1);
            fault(LINE + "sum(".repeat(open) + "1" + ",1)".repeat(open) + ";", open == 9 ? ROOM : 0, open == 9 ? 15 + 35 : -1);
        }
        String eight = "(".repeat(8) + "1" + ")".repeat(8);
        good(LINE + eight + "+" + eight + "*" + eight + ";let y " + eight + ";");
        good(LINE + "(1)+".repeat(20) + "(1);");
        good(LINE + "(((((((" + "(1)+".repeat(20) + "(1))))))));");
        String seven = "(".repeat(7) + "1" + ")".repeat(7);
        good(LINE + "sum(" + seven + "," + seven + ");");
        fault(LINE + "sum(1,((((((((1)))))))));", ROOM, 15 + 6 + 7);
        fault(LINE + "(((((((root(sum(1,1))))))))));", ROOM, 15 + 15);
        fault(LINE + "(((((((1)+(((1", ROOM, 15 + 12);
        fault(LINE + "(((((((1)+((1", SYNTAX, 15 + 13);
    }

    private static void laterFaults() {
        DUE.sentence("If there is none, likewise: TWICE, NAME, WRONG, the first by its place");
        String late = "size 13 3;let x y;let x x;";
        fault(late, WRONG, 5);
        fault(late.replace("13", "12"), WRONG, 8);
        fault(late.replace("13 3", "12 2"), NAME, 16);
        fault(late.replace("13 3", "12 2").replace("y", "1"), TWICE, 22);
        fault("size 8 1;let x 1;let x y;", TWICE, 21);
        fault("size 8 1;let x y;let x 1;", NAME, 15);
        for (String end : new String[] {"!", "let", ")", "let z ((((((((", "1"}) {
            int place = switch (end) {
                case "let" -> late.length() + 3;
                case "let z ((((((((" -> late.length() + 14;
                default -> late.length();
            };
            fault(late + end, SYNTAX, place);
        }
        fault(late + "let z (((((((((", ROOM, late.length() + 14);
        fault(late + "let a 1;let b 1;let c 1;let d 1;let e 1;let f 1;let g 1;", ROOM, late.length() + 48);
        DUE.sentence("TWICE: (at it) a 'let' NAME told already");
        String eight = "let a 1;let b 1;let c 1;let d 1;let e 1;let f 1;let g 1;let ";
        for (char one = 'a'; one <= 'h'; one++) {
            fault(HEAD + eight + one + " 1;", one == 'h' ? 0 : TWICE, one == 'h' ? -1 : 9 + 56 + 4);
        }
        fault(HEAD + "let a 1;let a 2;let a b;", TWICE, 21);
        fault(HEAD + "let a 1;let\n\ta 2;", TWICE, 22);
    }

    private static void faultChangesNothing() {
        String[] faults = {"", "size 5 0;let a 1;!", "size 5 0;let a (((((((((1", "size 5 0;let a 1;let a 2;", "size 5 0;let a 1;let b c;",
            "size 13 0;let a 1;", "size 5 3;let a 1;", MANY + "+1;"};
        int[] numbers = {SYNTAX, SYNTAX, ROOM, TWICE, NAME, WRONG, WRONG, ROOM};
        DUE.sentence("A text with a FAULT changes nothing but the tape");
        for (int i = 0; i < faults.length; i++) {
            String text = faults[i];
            Twins twins = new Twins(DUE).both(x -> {
                Due.read(x, "size 7 2;let a 3;let b 10/a;let c 1/0;");
                x.store(32, 40, false);
                x.hold(2);
                x.resize(9, 0);
                x.store(3, 256, true);
                // The same place for both: only the one's tape has a text.
                x.read();
                Due.feed(x, "size 6 0;let q 2;");
                x.hold(0);
                x.back(17);
            });
            DUE.same("read of " + text, Due.read(twins.one(), text), numbers[i]);
            DUE.same("the tape", twins.one().count(6), 0);
            twins.one().read();
            twins.alike("a FAULT of " + text);
        }
    }

    private static void inPlaceOfTheOneAhead() {
        DUE.sentence("else it is in place of the one ahead; the STORE is 0; nothing can be undone, SLOTS hold nothing");
        for (int row : new int[] {72, 128}) {
            TaperedNumbers x = new TaperedNumbers();
            Due.read(x, "size 8 1;let a 3;let b 1/0;");
            for (int i = 0; i < 45; i++) {
                x.store(64, row, false);
            }
            for (int slot = 0; slot < 3; slot++) {
                x.hold(slot);
            }
            DUE.fault(x, "size 5 2;let z 1;", 0, -1);
            int[] due = {5, 2, 1, 0, 0, 1, 0, 0, 0, -1000, 0};
            for (int what = 0; what < due.length; what++) {
                DUE.same("count(" + what + ")", x.count(what), due[what]);
            }
            DUE.same("z", x.let(0, 0), 8);
            DUE.same("a is none", x.let(1, 0), NO_SUCH);
            DUE.no("undo", x.undo());
            DUE.no("clear", x.clear());
            for (int slot = 0; slot < 3; slot++) {
                DUE.no("restore", x.restore(slot));
            }
            for (int i = -100; i <= 100; i++) {
                DUE.same("bit(" + i + ")", x.bit(i), 0);
            }
            DUE.yes("store by the new SIZE", x.store(31, 31, false));
            DUE.no("store by the new SIZE", x.store(32, 31, false));
        }
    }
}
