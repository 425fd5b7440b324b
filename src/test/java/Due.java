/** What every test of the project shares: counts the answers that are not the ones that are due. */
final class Due {
    static final int BEYOND = -1000000001;
    static final int FULL = -1000000002;
    static final int KIND = -1000000003;
    static final int NONE = -1000000004;
    static final int STATE = -1000000005;
    static final int MISSING = -1000000006;
    static final int SIZE = -1000000007;

    private static int wrong = 0;

    private Due() {
    }

    static void due(int promise, String call, long got, long want) {
        if (got != want) {
            wrong++;
            System.out.println("promise " + promise + ": " + call + " answered " + got + ", due is " + want);
        }
    }

    static void dueTrue(String what, boolean holds) {
        if (!holds) {
            wrong++;
            System.out.println(what);
        }
    }

    /** A shop whose hats and heads come from a text. */
    static HeadHats shopOf(String text) {
        HeadHats x = new HeadHats();
        read(x, text);
        return x;
    }

    static int read(HeadHats x, String text) {
        feed(x, text);
        return x.shop();
    }

    static void feed(HeadHats x, String text) {
        dueTrue("a text that the tape has no room for: " + text, x.count(1) + text.length() <= 120);
        int i = 0;
        while (i < text.length()) {
            int n = Math.min(4, text.length() - i);
            int bytes = 0;
            for (int j = 0; j < n; j++) {
                bytes = (bytes << 8) | (text.charAt(i + j) & 255);
            }
            x.feed(bytes, n);
            i += n;
        }
    }

    static void end() {
        System.out.println(wrong == 0 ? "all as due" : wrong + " not as due");
        if (wrong != 0) {
            System.exit(1);
        }
    }
}
