import java.util.function.IntUnaryOperator;

/** What the tests share: comparing answers, and writing texts on THE SHEET. */
final class Checks {
    private int wrong;
    private int made;
    private String about = "";

    /** What is told ahead of each wrong answer from here on. */
    void about(String what) {
        about = what;
    }

    int made() {
        return made;
    }

    int wrong() {
        return wrong;
    }

    void due(String call, long got, long want) {
        made++;
        if (got != want) {
            wrong++;
            System.out.println(about + call + " answered " + got + ", due is " + want);
        }
    }

    void isTrue(String what, boolean holds) {
        due(what, holds ? 1 : 0, 1);
    }

    /** A call refuses, with that answer, every number that is not from lowest to highest, and none that is. */
    void refuses(String call, int lowest, int highest, IntUnaryOperator asked, int refusal) {
        for (int bad : new int[] {lowest - 1, highest + 1, Integer.MIN_VALUE, Integer.MAX_VALUE}) {
            due(call + " with " + bad, asked.applyAsInt(bad), refusal);
        }
        for (int good = lowest; good <= highest; good++) {
            isTrue(call + " with " + good + " is not refused so", asked.applyAsInt(good) != refusal);
        }
    }

    void end(String name) {
        System.out.println(name + ": " + made + " checks, " + wrong + " wrong");
        if (wrong != 0 || made == 0) {
            System.exit(1);
        }
    }

    /** A text of up to eight letters as the long that letters() takes. */
    static long packed(String text) {
        long w = 0;
        for (int i = 0; i < text.length(); i++) {
            w |= (text.charAt(i) & 255L) << (8 * i);
        }
        return w;
    }

    static void write(RowsDrawn x, String text) {
        for (int i = 0; i < text.length(); i += 8) {
            x.letters(packed(text.substring(i, Math.min(text.length(), i + 8))));
        }
    }

    static int page(RowsDrawn x, String text) {
        x.blank();
        write(x, text);
        return x.page();
    }

    static int rule(RowsDrawn x, int sort, String text) {
        x.blank();
        write(x, text);
        return x.rule(sort);
    }

    static int fault(RowsDrawn x, int sort, String text) {
        x.blank();
        write(x, text);
        return x.fault(sort);
    }

    /** A new object with these pages. */
    static RowsDrawn with(String... pages) {
        RowsDrawn x = new RowsDrawn();
        for (String page : pages) {
            page(x, page);
        }
        return x;
    }

    static void markAll(RowsDrawn x, int page, int as, int... boxes) {
        for (int box : boxes) {
            x.mark(page, box, as);
        }
    }

    static int bits(int... boxes) {
        int set = 0;
        for (int b : boxes) {
            set |= 1 << b;
        }
        return set;
    }
}
