/** Counts the answers that are not the ones that are due, and feeds texts. */
final class Due {
    private static final int SHOWN = 30;
    private int calls = 0;
    private int wrong = 0;
    private String sentence = "";
    private int callsAhead = 0;

    /** The document's sentence that the answers behind are due by: it is told with each wrong one. */
    void sentence(String words) {
        endSentence();
        sentence = words;
        callsAhead = calls;
    }

    /** A sentence that no answer is due by would be a test that can't fail. */
    private void endSentence() {
        if (!sentence.isEmpty() && calls == callsAhead) {
            wrong++;
            System.out.println("no answer was asked for: " + sentence);
        }
    }

    void same(String call, long got, long want) {
        calls++;
        if (got != want) {
            wrong++;
            if (wrong <= SHOWN) {
                System.out.println(call + " answered " + got + ", due is " + want + (sentence.isEmpty() ? "" : ": " + sentence));
            }
        }
    }

    void same(String call, boolean got, boolean want) {
        same(call, got ? 1 : 0, want ? 1 : 0);
    }

    void yes(String call, boolean got) {
        same(call, got, true);
    }

    void no(String call, boolean got) {
        same(call, got, false);
    }

    void end() {
        endSentence();
        System.out.println(calls + " answers, " + wrong + " not as due");
        if (wrong != 0) {
            System.exit(1);
        }
    }

    /** Feeds a text's bytes behind the tape, which is as long as it is told then. */
    static int feed(TaperedNumbers x, String text) {
        StringBuilder padded = new StringBuilder(text);
        while (padded.length() % 20 != 0) {
            padded.append(' ');
        }
        int length = x.count(6);
        for (int i = 0; i < padded.length(); i += 20) {
            length = x.feed(four(padded, i), four(padded, i + 4), four(padded, i + 8), four(padded, i + 12), four(padded, i + 16));
        }
        return x.back(padded.length() - text.length());
    }

    private static int four(CharSequence text, int from) {
        int four = 0;
        for (int i = from; i < from + 4; i++) {
            four = four << 8 | text.charAt(i) & 255;
        }
        return four;
    }

    static int read(TaperedNumbers x, String text) {
        feed(x, text);
        return x.read();
    }

    /** Reads a text whose fault, or none by 0 and -1, is due. */
    void fault(TaperedNumbers x, String text, int number, int place) {
        same("read of " + text, read(x, text), number);
        same("place of " + text, x.place(), place);
    }

    /** What written() tells, byte by byte. */
    static String written(TaperedNumbers x, int n, int w, int a) {
        StringBuilder all = new StringBuilder();
        int length = x.written(n, w, a, -1);
        for (int i = 0; i < length; i++) {
            all.append((char) x.written(n, w, a, i));
        }
        return all.toString();
    }
}
