/** What the tests of texts' edges share: the numbers of faults, the heads of texts, and how a text is read. */
abstract class EdgeTexts {
    static final Due DUE = new Due();
    static final int SYNTAX = 1;
    static final int ROOM = 2;
    static final int TWICE = 3;
    static final int NAME = 4;
    static final int WRONG = 5;
    static final int NO_SUCH = -100000;
    static final String HEAD = "size 8 1;";
    static final String LINE = HEAD + "let x ";

    static void fault(String text, int number, int place) {
        DUE.fault(new TaperedNumbers(), text, number, place);
    }

    static void good(String text) {
        fault(text, 0, -1);
    }

    /** The ROW of the last NAME of a text that has no FAULT. */
    static int last(String text) {
        TaperedNumbers x = new TaperedNumbers();
        DUE.fault(x, text, 0, -1);
        return x.let(x.count(2) - 1, 0);
    }
}
