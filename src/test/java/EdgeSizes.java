/** What the tests of rows' edges share: one sentence of the document, asked of every size and width. */
abstract class EdgeSizes {
    static final Due DUE = new Due();
    static final TaperedNumbers X = new TaperedNumbers();

    interface Sizes {
        void of(int n, int w);
    }

    static void everySize(String sentence, Sizes sizes) {
        DUE.sentence(sentence);
        for (int n = 3; n <= 12; n++) {
            for (int w = 0; w <= 2; w++) {
                sizes.of(n, w);
            }
        }
    }

    static int nil(int n) {
        return 1 << (n - 1);
    }

    static int negative(int n, int a) {
        return -a & ((1 << n) - 1);
    }

    static String at(int n, int w, int a) {
        return "(" + n + "," + w + "," + a + ")";
    }
}
