import java.util.ArrayDeque;
import java.util.ArrayList;
import java.util.Deque;
import java.util.List;

/** The document's part I again: a text's tokens, its form by a stack of what is to come, and its names by the slow model. */
final class TextModel {
    private record Token(String text, int at, boolean fits) {
        boolean is(String other) {
            return text.equals(other);
        }

        boolean isInt() {
            return fits && Character.isDigit(text.charAt(0));
        }

        boolean isName() {
            return fits && Character.isLetter(text.charAt(0)) && !List.of("size", "let", "root", "sum").contains(text);
        }
    }

    private static List<Token> tokens(String text) {
        List<Token> all = new ArrayList<>();
        int i = 0;
        while (i < text.length()) {
            char first = text.charAt(i);
            if (" \t\n\r".indexOf(first) >= 0) {
                i++;
                continue;
            }
            int end = i + 1;
            boolean letters = first >= 'a' && first <= 'z';
            boolean digits = first >= '0' && first <= '9';
            while (end < text.length() && (letters && text.charAt(end) >= 'a' && text.charAt(end) <= 'z'
                || digits && text.charAt(end) >= '0' && text.charAt(end) <= '9')) {
                end++;
            }
            boolean fits = letters ? end - i <= 8 : digits ? end - i <= 4 : ";+-*/(),".indexOf(first) >= 0;
            all.add(new Token(text.substring(i, end), i, fits));
            i = end;
        }
        return all;
    }

    /** The number and place of a text's fault; 0 and -1 without. */
    static int[] fault(String text) {
        int[] form = formFault(text);
        return form == null ? nameFault(text) : form;
    }

    /** The ROWS of the NAMES of a text that has no fault. */
    static int[] rows(String text, int n, int w) {
        return new Evaluation(tokens(text), n, w).rows();
    }

    /** The number and place of the first fault of syntax or room, by a stack of what is to come. */
    static int[] formFault(String text) {
        Deque<String> due = new ArrayDeque<>();
        push(due, "size INT INT ; LINES");
        int count = 0;
        int lets = 0;
        int open = 0;
        for (Token token : tokens(text)) {
            if (!token.fits() || !expand(due, token)) {
                return new int[] {1, token.at()};
            }
            count++;
            lets += token.is("let") ? 1 : 0;
            open += token.is("(") ? 1 : token.is(")") ? -1 : 0;
            if (count > 400 || lets > 8 || open > 8) {
                return new int[] {2, token.at()};
            }
        }
        return due.size() == 1 && due.peek().equals("LINES") ? null : new int[] {1, text.length()};
    }

    private static void push(Deque<String> due, String symbols) {
        String[] all = symbols.split(" ");
        for (int i = all.length - 1; i >= 0; i--) {
            if (!all[i].isEmpty()) {
                due.push(all[i]);
            }
        }
    }

    /** Takes the token off what is to come; false: it can't come. */
    private static boolean expand(Deque<String> due, Token t) {
        while (!due.isEmpty()) {
            String top = due.pop();
            switch (top) {
                case "LINES" -> push(due, t.is("let") ? "let NAME EXPR ; LINES" : "none");
                case "EXPR" -> push(due, t.is("-") ? "- TERM SUMS" : "TERM SUMS");
                case "SUMS" -> push(due, t.is("+") || t.is("-") ? t.text() + " TERM SUMS" : "");
                case "TERM" -> push(due, "ATOM PRODUCTS");
                case "PRODUCTS" -> push(due, t.is("*") || t.is("/") ? t.text() + " ATOM PRODUCTS" : "");
                case "MORE" -> push(due, t.is(",") ? ", EXPR , EXPR MORE" : "");
                case "ATOM" -> push(due, t.isInt() ? "INT" : t.isName() ? "NAME" : t.is("(") ? "( EXPR )"
                    : t.is("root") ? "root ( EXPR )" : t.is("sum") ? "sum ( EXPR , EXPR MORE )" : "none");
                case "INT" -> {
                    return t.isInt();
                }
                case "NAME" -> {
                    return t.isName();
                }
                default -> {
                    return t.is(top);
                }
            }
        }
        return false;
    }

    /** Of a text without the others: the first fault of names and sizes, by its tokens in a row. */
    static int[] nameFault(String text) {
        List<Token> all = tokens(text);
        List<String> told = new ArrayList<>();
        int size = Integer.parseInt(all.get(1).text());
        int wide = Integer.parseInt(all.get(2).text());
        if (size < 3 || size > 12) {
            return new int[] {5, all.get(1).at()};
        }
        if (wide > 2) {
            return new int[] {5, all.get(2).at()};
        }
        String telling = "";
        for (int i = 4; i < all.size(); i++) {
            Token token = all.get(i);
            if (all.get(i - 1).is("let")) {
                if (told.contains(token.text())) {
                    return new int[] {3, token.at()};
                }
                telling = token.text();
            } else if (token.isName() && !told.contains(token.text())) {
                return new int[] {4, token.at()};
            } else if (token.is(";")) {
                told.add(telling);
            }
        }
        return new int[] {0, -1};
    }

    /** A text without fault, worked out token by token with the model's numbers. */
    private static final class Evaluation {
        private final List<Token> all;
        private final int n;
        private final int w;
        private final List<String> told = new ArrayList<>();
        private final List<Integer> rows = new ArrayList<>();
        private int i = 4;

        Evaluation(List<Token> all, int n, int w) {
            this.all = all;
            this.n = n;
            this.w = w;
        }

        int[] rows() {
            while (i < all.size()) {
                String name = all.get(i + 1).text();
                i += 2;
                int row = expr();
                told.add(name);
                rows.add(row);
                i++;
            }
            return rows.stream().mapToInt(Integer::intValue).toArray();
        }

        private boolean next(String sign) {
            if (!all.get(i).is(sign)) {
                return false;
            }
            i++;
            return true;
        }

        private int expr() {
            int row = next("-") ? Model.negative(n, term()) : term();
            while (true) {
                if (next("+")) {
                    row = Model.both(n, w, row, term(), 0);
                } else if (next("-")) {
                    row = Model.both(n, w, row, term(), 1);
                } else {
                    return row;
                }
            }
        }

        private int term() {
            int row = atom();
            while (true) {
                if (next("*")) {
                    row = Model.both(n, w, row, atom(), 2);
                } else if (next("/")) {
                    row = Model.both(n, w, row, atom(), 3);
                } else {
                    return row;
                }
            }
        }

        private int atom() {
            Token token = all.get(i++);
            if (token.isInt()) {
                return Model.rounded(n, w, Model.Frac.of(Integer.parseInt(token.text()), 1));
            }
            if (token.isName()) {
                return rows.get(told.indexOf(token.text()));
            }
            if (token.is("(")) {
                int row = expr();
                i++;
                return row;
            }
            i++;
            return token.is("root") ? root() : sum();
        }

        private int root() {
            int row = expr();
            i++;
            return Model.root(n, w, row);
        }

        private int sum() {
            Model.Frac all = Model.Frac.of(0, 1);
            do {
                int one = expr();
                i++;
                Model.Frac product = Model.exact(n, w, one, expr(), 2);
                all = product == null || all == null ? null : all.plus(product);
            } while (next(","));
            i++;
            return Model.rounded(n, w, all);
        }
    }
}
