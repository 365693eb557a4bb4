/** Promises 12 to 17: marks, the sentences that fit them, and the box to ask for. */
public final class MarksTest {
    private static final Checks c = new Checks();
    private static final int MIN = Integer.MIN_VALUE, MAX = Integer.MAX_VALUE;
    private static final int ALL = 15 + 15 * 15 + 15 * 15 * 15;

    public static void main(String[] args) {
        mark();
        whole();
        fits();
        likeliest();
        step();
        stepsInOrder();
        leads();
        ask();
        c.end("MarksTest");
    }

    private static RowsDrawn with(String... pages) {
        RowsDrawn x = new RowsDrawn();
        for (String page : pages) {
            Checks.page(x, page);
        }
        return x;
    }

    private static void mark() {
        RowsDrawn x = with("a(bc)");
        c.due("12 neither at first", x.mark(0, 0, 1), 0);
        c.due("12 was yes", x.mark(0, 0, 1), 1);
        c.due("12 was yes, becomes no", x.mark(0, 0, 2), 1);
        c.due("12 counted as no", x.count(5), 1);
        c.due("12 not as yes", x.count(4), 0);
        c.due("12 was no", x.mark(0, 0, 0), 2);
        c.due("12 was neither", x.mark(0, 0, 0), 0);
        c.due("12 none is left", x.count(5), 0);
        c.due("12 another box", x.mark(0, 2, 2), 0);
        c.due("12 page", x.mark(1, 0, 1), RowsDrawn.UNKNOWN);
        c.due("12 page below", x.mark(-1, 0, 1), RowsDrawn.UNKNOWN);
        c.due("12 box", x.mark(0, 3, 1), RowsDrawn.UNKNOWN);
        c.due("12 box below", x.mark(0, MIN, 1), RowsDrawn.UNKNOWN);
        c.due("12 as 3", x.mark(0, 1, 3), RowsDrawn.OUTSIDE);
        c.due("12 as -1", x.mark(0, 1, -1), RowsDrawn.OUTSIDE);
        c.due("12 unknown ahead of outside", x.mark(0, MAX, MAX), RowsDrawn.UNKNOWN);
        c.due("12 refusals change nothing", x.mark(0, 1, 0), 0);
    }

    private static void whole() {
        RowsDrawn x = with("a(bc)", "a");
        c.due("13 not at first", x.whole(0, true), 0);
        c.due("13 was", x.whole(0, true), 1);
        c.due("13 another is not", x.whole(1, false), 0);
        c.due("13 was, is no more", x.whole(0, false), 1);
        c.due("13 was not", x.whole(0, false), 0);
        c.due("13 page", x.whole(2, true), RowsDrawn.UNKNOWN);
        c.due("13 page below", x.whole(-1, true), RowsDrawn.UNKNOWN);
    }

    private static void fits() {
        RowsDrawn none = new RowsDrawn();
        c.due("14 no page", none.fits(0), RowsDrawn.STATE);
        c.due("14 outside ahead of state", none.fits(4), RowsDrawn.OUTSIDE);
        c.due("14 outside below", none.fits(-1), RowsDrawn.OUTSIDE);

        RowsDrawn x = with("a(b)");
        c.due("14 all fit without marks", x.fits(0), ALL);
        c.due("14 the least has a step", x.fits(1), 1);
        x.mark(0, 1, 1);
        // To the only b: b, 0 and *b; every second step leads nowhere.
        c.due("14 to the b", x.fits(0), 3);
        c.due("14 the least", x.fits(1), 1);
        x.mark(0, 1, 2);
        c.due("14 not to the b", x.fits(0), ALL - 3);
        x.mark(0, 0, 1);
        c.due("14 none leads to the root", x.fits(0), 0);
        c.due("14 no least", x.fits(1), RowsDrawn.NONE);
        c.due("14 no likeliest", x.fits(2), RowsDrawn.NONE);
        c.due("14 no even", x.fits(3), RowsDrawn.NONE);
        x.mark(0, 0, 0);
        x.mark(0, 1, 0);
        x.whole(0, true);
        c.due("14 whole without a yes", x.fits(0), ALL - 3);
        x.whole(0, false);
        c.due("14 not whole any more", x.fits(0), ALL);

        // b: 1 3, c: 2. Only b and *b lead to both and to no c; *b and b stay when the page is whole.
        RowsDrawn y = with("a(bcb)");
        y.mark(0, 1, 1);
        y.mark(0, 3, 1);
        c.due("14 to both b", y.fits(0), 2);
        y.mark(0, 3, 0);
        c.due("14 to the first b", y.fits(0), 3);
        y.whole(0, true);
        c.due("14 to it alone", y.fits(0), 1);
        y.mark(0, 3, 2);
        y.whole(0, false);
        c.due("14 not to the second", y.fits(0), 1);
        Checks.page(y, "a(cb)");
        c.due("14 a page more, unmarked", y.fits(0), 1);
        y.mark(1, 2, 1);
        c.due("14 none fits both", y.fits(0), 0);
        y.mark(1, 2, 0);
        y.mark(1, 1, 1);
        c.due("14 the first of both", y.fits(0), 1);
        c.due("14 by one step", y.fits(1), 1);
        c.due("14 step 0", y.step(0, 0), 5);
    }

    private static void likeliest() {
        // On page 0 the yes is reached by b, 0 and *b alone.
        RowsDrawn x = with("a(b)", "a(cb)", "a(cb)", "a(bbb)");
        x.mark(0, 1, 1);
        // b leads to 1, 1, 3 boxes: even 2. 0 leads to 1, 1, 1: even 3.
        c.due("14 even", x.fits(3), 3);
        c.due("15 the least", x.step(0, 0), 1);
        c.due("15 the likeliest", x.step(1, 0), 5);
        c.due("14 its steps", x.fits(2), 1);
        x.mark(3, 3, 2);
        // A page with a NO is not looked at, and it lets 0 alone fit: b and *b lead to its last b.
        c.due("14 even without page 3", x.fits(3), 2);
        c.due("15 still 0", x.step(1, 0), 5);
        x.mark(3, 3, 0);
        x.mark(3, 2, 1);
        // Now b and *b alone fit; page 3 has a YES and is not looked at.
        c.due("14 two fit", x.fits(0), 2);
        c.due("14 even of b", x.fits(3), 2);
        c.due("15 of like ones the first", x.step(1, 0), 1);
        x.whole(1, true);
        c.due("14 none leads to nothing on page 1", x.fits(0), 0);
        x.whole(1, false);
        x.mark(1, 1, 1);
        c.due("14 none", x.fits(3), RowsDrawn.NONE);

        RowsDrawn y = with("a(b)");
        y.mark(0, 1, 1);
        c.due("14 no unmarked page: even 0", y.fits(3), 0);
        c.due("15 and the first", y.step(1, 0), 1);

        // Pages on which it leads to nothing do not count, however many they are.
        RowsDrawn z = with("a(b)", "a(c)", "a(c)", "a(c)", "a(b)");
        z.mark(0, 1, 1);
        c.due("14 0 leads on four", z.fits(3), 4);
        c.due("15 so it is 0", z.step(1, 0), 5);
        // 0 may not lead to the c now; b leads to nothing on two unmarked pages and to one box on one.
        z.mark(1, 1, 2);
        c.due("14 b leads on one", z.fits(3), 1);
        c.due("15 b is first", z.step(1, 0), 1);
        // A whole page without marks is not looked at.
        RowsDrawn w = with("a(b)", "a(c)", "a(b)");
        w.whole(1, true);
        w.mark(0, 1, 1);
        c.due("14 a whole page is not looked at", w.fits(3), 1);
        c.due("14 and refuses 0", w.fits(0), 2);
    }

    private static void step() {
        RowsDrawn none = new RowsDrawn();
        c.due("15 no page", none.step(0, 0), RowsDrawn.STATE);
        for (int bad : new int[] {-1, 2, MIN, MAX}) {
            c.due("15 which " + bad, none.step(bad, 0), RowsDrawn.OUTSIDE);
        }
        for (int bad : new int[] {-1, 3, MIN, MAX}) {
            c.due("15 i " + bad, none.step(1, bad), RowsDrawn.OUTSIDE);
        }
        RowsDrawn x = with("a(b(c(d1d2)))");
        x.mark(0, 4, 1);
        x.mark(0, 3, 2);
        // The last d alone: *c/1.
        c.due("15 two steps", x.fits(1), 2);
        c.due("15 *c", x.step(0, 0), 11);
        c.due("15 1", x.step(0, 1), 6);
        c.due("15 no third of two", x.step(0, 2), RowsDrawn.NONE);
        x.mark(0, 3, 0);
        c.due("15 *d alone now", x.step(0, 0), 12);
        c.due("15 no second", x.step(0, 1), RowsDrawn.NONE);
        c.due("15 no third", x.step(0, 2), RowsDrawn.NONE);
        x.mark(0, 0, 1);
        c.due("15 none fits", x.step(0, 0), RowsDrawn.NONE);
        c.due("15 none is likeliest", x.step(1, 0), RowsDrawn.NONE);
        RowsDrawn y = with("a(b(c(d1)d2)c(c(d3)))");
        y.mark(0, 3, 1);
        y.whole(0, true);
        // Fewer than three steps reach the first d with others alone.
        c.due("15 three steps", y.fits(1), 3);
        c.due("15 b", y.step(0, 0), 1);
        c.due("15 b/c", y.step(0, 1), 2);
        c.due("15 b/c/d", y.step(0, 2), 3);
        // The first sentences of two and of three steps.
        RowsDrawn z = with("b(a(a(a)))");
        z.whole(0, true);
        z.mark(0, 2, 1);
        c.due("15 a/a", z.fits(1), 2);
        c.due("15 a of a/a", z.step(0, 0), 0);
        c.due("15 second a of a/a", z.step(0, 1), 0);
        c.due("15 no third of a/a", z.step(0, 2), RowsDrawn.NONE);
        z.mark(0, 2, 0);
        z.mark(0, 3, 1);
        c.due("15 a/a/a", z.fits(1), 3);
        c.due("15 likeliest a/a/a", z.fits(2), 3);
        c.due("15 third a", z.step(0, 2), 0);
    }

    /** Each STEP of THE TONGUE by its number, as the one that alone leads to what is marked. */
    private static void stepsInOrder() {
        String[] steps = {"a", "b", "c", "d", "e", "0", "1", "2", "3", "*a", "*b", "*c", "*d", "*e", ">"};
        String page = "e(abc(a(b)c(d(e))e)d(ab)eabcde(a))";
        int fitted = 0;
        for (int i = 0; i < 15; i++) {
            for (int j = 0; j < 15; j++) {
                RowsDrawn x = with(page);
                Checks.rule(x, 0, steps[i] + "/" + steps[j]);
                int set = x.gives(0, 0);
                if (set != 0) {
                    for (int b = 0; b < x.count(6); b++) {
                        if ((set >> b & 1) != 0) {
                            x.mark(0, b, 1);
                        }
                    }
                    x.whole(0, true);
                    fitted++;
                    c.isTrue("15 something fits " + steps[i] + "/" + steps[j], x.fits(0) > 0);
                    c.due("15 the least gives the same", leastGives(x, steps), set);
                    int number = (x.fits(1) == 2 ? 15 + x.step(0, 0) * 15 + x.step(0, 1) : x.step(0, 0));
                    c.isTrue("15 the least is not behind it", number <= 15 + i * 15 + j);
                }
            }
        }
        c.isTrue("15 many lead somewhere", fitted > 50);
    }

    private static int leastGives(RowsDrawn x, String[] steps) {
        StringBuilder text = new StringBuilder();
        for (int i = 0; i < x.fits(1); i++) {
            text.append(i == 0 ? "" : "/").append(steps[x.step(0, i)]);
        }
        return x.gives(Checks.rule(x, 0, text.toString()), 0);
    }

    private static void leads() {
        RowsDrawn x = with("a(b)", "a(cb)");
        c.due("16 to the b", x.leads(0, 1), 3);
        c.due("16 to the root", x.leads(0, 0), 0);
        // b, 1, *b; and of two steps any of the three to the c (c, 0, *c), then ">".
        c.due("16 to the second b", x.leads(1, 2), 6);
        x.mark(0, 1, 1);
        c.due("16 all that fit", x.leads(0, 1), 3);
        c.due("16 of them to the b", x.leads(1, 2), 2);
        c.due("16 of them to the c", x.leads(1, 1), 1);
        x.mark(0, 0, 1);
        c.due("16 none fits", x.leads(0, 1), 0);
        c.due("16 page", x.leads(2, 0), RowsDrawn.UNKNOWN);
        c.due("16 page below", x.leads(-1, 0), RowsDrawn.UNKNOWN);
        c.due("16 box", x.leads(0, 2), RowsDrawn.UNKNOWN);
        c.due("16 box below", x.leads(0, MIN), RowsDrawn.UNKNOWN);
        c.due("16 no page", new RowsDrawn().leads(0, 0), RowsDrawn.UNKNOWN);
    }

    private static void asked(String why, RowsDrawn x, int page, int box, int greater) {
        c.due("17 page, " + why, x.ask(0), page);
        c.due("17 box, " + why, x.ask(1), box);
        c.due("17 greater, " + why, x.ask(2), greater);
    }

    private static void ask() {
        RowsDrawn x = new RowsDrawn();
        asked("no page", x, -1, -1, -1);
        c.due("17 what 3", x.ask(3), RowsDrawn.OUTSIDE);
        c.due("17 what -1", x.ask(-1), RowsDrawn.OUTSIDE);
        x = with("a(b)", "a(cb)");
        x.mark(0, 1, 1);
        // Of b, 0, *b two lead to the b of page 1 and one to its c: both part them alike, the c stands first.
        asked("the least box", x, 1, 1, 2);
        Checks.page(x, "a(cb)");
        asked("the least page", x, 1, 1, 2);
        x.whole(1, true);
        asked("none fits", x, -1, -1, -1);
        x.whole(1, false);
        x.mark(1, 1, 1);
        asked("one fits: nothing parts it", x, -1, -1, -1);
        x.mark(1, 1, 2);
        asked("two that are alike everywhere", x, -1, -1, -1);
        Checks.page(x, "a(c(b))");
        asked("b and *b part there", x, 3, 2, 1);
        x.mark(3, 2, 1);
        asked("*b alone", x, -1, -1, -1);

        // A box that is marked is not asked for, nor one of a whole page.
        RowsDrawn y = with("a(b)", "a(cb)");
        y.mark(0, 1, 1);
        y.mark(1, 0, 2);
        asked("root is no", y, 1, 1, 2);
        RowsDrawn z = with("a(b)");
        z.whole(0, true);
        asked("a whole page alone", z, -1, -1, -1);
        RowsDrawn v = with("a(b)");
        asked("3 lead to it", v, 0, 1, ALL - 3);
    }
}
