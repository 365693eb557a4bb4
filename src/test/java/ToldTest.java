/** Promises 26 and 27: counts and the digest. */
public final class ToldTest {
    private static final Checks c = new Checks();

    public static void main(String[] args) {
        count();
        digest();
        refusalsChangeNothing();
        c.end("ToldTest");
    }

    private static void count() {
        RowsDrawn x = new RowsDrawn();
        Checks.page(x, "a(bc)");
        Checks.page(x, "a");
        Checks.rule(x, 0, "a");
        x.law(0, 0, 1);
        x.law(1, 0, 1);
        x.law(2, 0, 1);
        x.mark(0, 0, 1);
        x.mark(0, 1, 2);
        x.mark(1, 0, 2);
        Checks.write(x, "ab(((");
        int[] want = {2, 1, 3, 5, 1, 2, 4};
        for (int what = 0; what <= 6; what++) {
            c.due("26 count(" + what + ")", x.count(what), want[what]);
        }
        for (int what : new int[] {-1, 7, Integer.MIN_VALUE, Integer.MAX_VALUE}) {
            c.due("26 count(" + what + ")", x.count(what), RowsDrawn.OUTSIDE);
        }
    }

    private static long digestOf(long... numbers) {
        long h = 331;
        for (long n : numbers) {
            h = 31 * h + n;
        }
        return h;
    }

    private static void digest() {
        RowsDrawn x = new RowsDrawn();
        c.due("27 a new object", x.digest(), digestOf(0, 0, 0, 0, 0, 0, 0));
        Checks.write(x, "~a");
        c.due("27 letters", x.digest(), digestOf(126, 97, 0, 0, 0, 2, 0, 0, 0));
        Checks.page(x, "a(b7)");
        c.due("27 a page", x.digest(), digestOf(0, -1, -1, 0, 1, 7, 0, 0, 0, 4, 1, 0, 0, 0, 0, 0, 2));
        x.mark(0, 0, 2);
        x.mark(0, 1, 1);
        x.whole(0, true);
        c.due("27 marks", x.digest(), digestOf(0, -1, -1, 2, 1, 7, 0, 1, 1, 4, 1, 0, 0, 0, 1, 1, 2));
        Checks.page(x, "a");
        Checks.rule(x, 3, "b");
        Checks.rule(x, 5, "b");
        x.law(1, 8, 9);
        x.law(2, 3, 1);
        Checks.write(x, "e");
        c.due("27 all", x.digest(), digestOf(
            0, -1, -1, 2, 1, 7, 0, 1, 1, 4,
            0, -1, -1, 0, 0, 2,
            3, 2, 2, 0, 1,
            5, 0, 1, 0, 1,
            1, 8, 9, 2, 3, 1,
            101,
            2, 2, 2, 1, 1, 1, 3));
    }

    private static void refusalsChangeNothing() {
        RowsDrawn x = new RowsDrawn();
        Checks.page(x, "a(b1b2)");
        Checks.rule(x, 0, "b");
        Checks.write(x, "a(");
        long before = x.digest();
        x.letters(127);
        x.page();
        x.rule(0);
        x.rule(9);
        x.mark(0, 0, 3);
        x.mark(0, 9, 1);
        x.whole(1, true);
        x.law(0, 1, 0);
        x.mend(0, 0, 0, 0);
        x.fault(7);
        c.due("27 after refusals", x.digest(), before);
        x.fits(0);
        x.ask(0);
        x.like(0, 0);
        x.leads(0, 1);
        x.fault(0);
        c.due("27 after questions", x.digest(), before);
    }
}
