/** Promises 18 to 21: laws, what breaks them, and mends. */
public final class LawsTest {
    private static final Checks c = new Checks();
    private static final int MIN = Integer.MIN_VALUE, MAX = Integer.MAX_VALUE;

    public static void main(String[] args) {
        law();
        holds();
        asBefore();
        broken();
        mend();
        mendRefusals();
        mendEdges();
        c.end("LawsTest");
    }

    private static void law() {
        RowsDrawn x = new RowsDrawn();
        c.due("18 form -1", x.law(-1, 0, 0), RowsDrawn.OUTSIDE);
        c.due("18 form 4", x.law(4, 0, 0), RowsDrawn.OUTSIDE);
        c.due("18 form far", x.law(MAX, 0, 0), RowsDrawn.OUTSIDE);
        for (int form = 0; form <= 3; form++) {
            c.due("18 x -1", x.law(form, -1, 50), RowsDrawn.OUTSIDE);
            c.due("18 x 100", x.law(form, 100, 99), RowsDrawn.OUTSIDE);
            c.due("18 y -1", x.law(form, 0, -1), RowsDrawn.OUTSIDE);
            c.due("18 y 100", x.law(form, 0, 100), RowsDrawn.OUTSIDE);
            c.due("18 x far", x.law(form, MIN, 0), RowsDrawn.OUTSIDE);
            c.due("18 y far", x.law(form, 0, MAX), RowsDrawn.OUTSIDE);
        }
        c.due("18 many, y below x", x.law(0, 2, 1), RowsDrawn.OUTSIDE);
        c.due("18 between, y below x", x.law(1, 99, 98), RowsDrawn.OUTSIDE);
        c.due("18 none so far", x.count(2), 0);
        c.due("18 many", x.law(0, 1, 1), 0);
        c.due("18 between", x.law(1, 0, 99), 1);
        c.due("18 unlike, y below x", x.law(2, 9, 1), 2);
        c.due("18 as before, y below x", x.law(3, 99, 0), 3);
        for (int i = 4; i < 8; i++) {
            c.due("18 law " + i, x.law(2, 0, 0), i);
        }
        c.due("18 a ninth", x.law(2, 0, 0), RowsDrawn.FULL);
        c.due("18 outside ahead of full", x.law(2, 0, 100), RowsDrawn.OUTSIDE);
        c.due("18 eight", x.count(2), 8);
        Checks.page(x, "a(b)");
        Checks.rule(x, 0, "b");
        c.due("18 the eighth", x.holds(7, 0, 0), 1);
        c.due("18 none behind the eighth", x.holds(8, 0, 0), RowsDrawn.UNKNOWN);
    }

    private static void holds() {
        RowsDrawn x = new RowsDrawn();
        Checks.page(x, "a(b5cb7b(d)b7)");
        int all = Checks.rule(x, 0, "b");
        int some = Checks.rule(x, 0, "c/>");
        int none = Checks.rule(x, 0, "e");
        int blankOnes = Checks.rule(x, 1, "b");
        x.law(0, 4, 4);
        x.law(0, 0, 3);
        x.law(0, 5, 9);
        x.law(1, 5, 7);
        x.law(1, 6, 7);
        x.law(1, 5, 6);
        x.law(2, 0, 0);
        x.law(3, 99, 0);
        int[] want = {1, 0, 0, 1, 0, 0, 0, 1};
        int[] wantSome = {0, 1, 0, 1, 1, 0, 1, 1};
        int[] wantNone = {0, 1, 0, 1, 1, 1, 1, 1};
        for (int i = 0; i < 8; i++) {
            c.due("19 law " + i + " for b", x.holds(i, all, 0), want[i]);
            c.due("19 law " + i + " for c/>", x.holds(i, some, 0), wantSome[i]);
            c.due("19 law " + i + " for e", x.holds(i, none, 0), wantNone[i]);
            c.due("19 law " + i + " without a word", x.holds(i, blankOnes, 0), wantNone[i]);
        }
        c.due("19 law", x.holds(8, 0, 0), RowsDrawn.UNKNOWN);
        c.due("19 law below", x.holds(-1, 0, 0), RowsDrawn.UNKNOWN);
        c.due("19 rule", x.holds(0, 4, 0), RowsDrawn.UNKNOWN);
        c.due("19 rule below", x.holds(0, MIN, 0), RowsDrawn.UNKNOWN);
        c.due("19 page", x.holds(0, 0, 1), RowsDrawn.UNKNOWN);
        c.due("19 page below", x.holds(0, 0, -1), RowsDrawn.UNKNOWN);
        // Two boxes without a word are not alike for UNLIKE.
        Checks.page(x, "a(bbb1)");
        c.due("19 boxes without a word", x.holds(6, all, 1), 1);
    }

    private static void asBeforeIs(String ahead, String now, int hundredths, int want) {
        RowsDrawn x = new RowsDrawn();
        Checks.page(x, ahead);
        Checks.page(x, now);
        Checks.rule(x, 0, "b");
        x.law(3, hundredths, 0);
        c.due("19 " + hundredths + " hundredths of " + ahead + " on " + now, x.holds(0, 0, 1), want);
        c.due("19 no page ahead", x.holds(0, 0, 0), 1);
    }

    private static void asBefore() {
        asBeforeIs("a(b1b2b3)", "a(b1b2)", 66, 1);
        asBeforeIs("a(b1b2b3)", "a(b1b2)", 67, 0);
        asBeforeIs("a(b1b2b3)", "a(b3b2b1)", 99, 1);
        asBeforeIs("a(b1b2)", "a(b1)", 50, 1);
        asBeforeIs("a(b1b2)", "a(b1)", 51, 0);
        // Unlike words are counted once, on both pages.
        asBeforeIs("a(b1b1b1b2)", "a(b2)", 50, 1);
        asBeforeIs("a(b1b1b1b2)", "a(b2)", 51, 0);
        asBeforeIs("a(b1b2b3)", "a(b1b1b1)", 34, 0);
        asBeforeIs("a(b1b2b3)", "a(b1b1b1)", 33, 1);
        // What is not given does not count, nor do boxes without a word.
        asBeforeIs("a(b1b2)", "a(b1c2)", 51, 0);
        asBeforeIs("a(b1c2)", "a(b1)", 99, 1);
        asBeforeIs("a(b1c2)", "a(b2)", 1, 0);
        asBeforeIs("a(b1b1b1b2)", "a(b1)", 51, 0);
        asBeforeIs("a(bb1)", "a(b1)", 99, 1);
        asBeforeIs("a(bb)", "a(b1)", 99, 1);
        asBeforeIs("a(c1)", "a(b1)", 99, 1);
        asBeforeIs("a(b1)", "a(c)", 0, 1);
        asBeforeIs("a(b1)", "a(c)", 1, 0);
        asBeforeIs("a(b0b99)", "a(b99)", 50, 1);
        RowsDrawn x = new RowsDrawn();
        Checks.page(x, "a(b1)");
        Checks.page(x, "a(b2)");
        Checks.page(x, "a(b1)");
        Checks.rule(x, 0, "b");
        x.law(3, 1, 0);
        c.due("19 the page right ahead alone", x.holds(0, 0, 2), 0);
    }

    private static void broken() {
        RowsDrawn x = new RowsDrawn();
        Checks.page(x, "a(b5b7)");
        Checks.page(x, "a(b9b9b9)");
        Checks.page(x, "a(c)");
        Checks.rule(x, 0, "b");
        c.due("20 no laws", x.broken(0, 0), 0);
        c.due("20 loudly", x.broken(0, 2), 1);
        x.law(0, 1, 2);
        x.law(1, 5, 8);
        x.law(2, 0, 0);
        x.law(3, 1, 0);
        c.due("20 all hold", x.broken(0, 0), 0);
        c.due("20 none holds", x.broken(0, 1), 2 + 4 + 8 + 16);
        c.due("20 loudly, whatever laws say", x.broken(0, 2), 1);
        for (int i = 4; i < 8; i++) {
            x.law(0, 0, 0);
        }
        c.due("20 the last four", x.broken(0, 0), 2 * (16 + 32 + 64 + 128));
        c.due("20 rule", x.broken(1, 0), RowsDrawn.UNKNOWN);
        c.due("20 rule below", x.broken(-1, 0), RowsDrawn.UNKNOWN);
        c.due("20 page", x.broken(0, 3), RowsDrawn.UNKNOWN);
        c.due("20 page below", x.broken(0, -1), RowsDrawn.UNKNOWN);
    }

    private static void mendIs(String old, String rule, String now, int... want) {
        RowsDrawn x = new RowsDrawn();
        Checks.page(x, old);
        Checks.page(x, now);
        Checks.rule(x, 0, rule);
        int[] whats = {0, 1, 2, 3, 10, 11, 12};
        for (int i = 0; i < whats.length; i++) {
            c.due("21 mend " + whats[i] + " of " + rule + " from " + old + " to " + now,
                x.mend(0, 0, 1, whats[i]), want[i]);
        }
    }

    private static void mend() {
        mendIs("a(b1b2)", "b", "a(c1c2)", 2, 1, 1, 6, 2, -1, -1);
        // Behind c: *c leads to all three, c to the two of the root.
        mendIs("a(b1b2)", "b", "a(c1c2d(c3))", 2, 1, 1, 6, 2, -1, -1);
        // The words deep down alone: d/c, ahead of 2/c and *d/c.
        mendIs("a(b1b2)", "b", "a(c7d(c1c2))", 2, 2, 1, Checks.bits(3, 4), 3, 2, -1);
        // What it leads to beyond what was given costs: c has 1 less 1, 0 has 1, *c 2 less 1, d/c 1.
        mendIs("a(b1b2)", "b", "a(c1c7d(c2))", 1, 1, 0, Checks.bits(1), 5, -1, -1);
        // A word that is given twice counts once, on both sides.
        mendIs("a(b1b1)", "b", "a(c1c1)", 1, 1, 0, 6, 2, -1, -1);
        mendIs("a(b1b2)", "b", "a(c1c2c7c7)", 1, 1, 0, 30, 2, -1, -1);
        // Boxes without a word cost nothing: c leads to one as well.
        mendIs("a(b1)", "b", "a(cc1)", 1, 1, 0, 6, 2, -1, -1);
        // Nothing is like the old: the first that leads to no word at all, and it is not sure if others lead to blank ones.
        mendIs("a(b1)", "b", "a(c2)", 0, 1, 1, 0, 0, -1, -1);
        mendIs("a(b1)", "b", "a(c2d)", 0, 1, 0, 0, 0, -1, -1);
        // Three steps: fewer reach the first d with others alone; of three b/c/d is the first.
        mendIs("a(b1)", "b", "a(b(c(d1)d2)c(c(d3)))", 1, 3, 1, Checks.bits(3), 1, 2, 3);
        mendIs("a(b1)", "b", "a(b(c(d1)d2)d3)", 1, 2, 1, Checks.bits(3), 11, 3, -1);
    }

    private static void mendRefusals() {
        RowsDrawn x = new RowsDrawn();
        Checks.page(x, "a(b1c)");
        Checks.page(x, "a(b1)");
        Checks.rule(x, 0, "b");
        Checks.rule(x, 0, "c");
        Checks.rule(x, 0, "e");
        c.due("21 rule", x.mend(3, 0, 1, 0), RowsDrawn.UNKNOWN);
        c.due("21 rule below", x.mend(-1, 0, 1, 0), RowsDrawn.UNKNOWN);
        c.due("21 old", x.mend(0, 2, 1, 0), RowsDrawn.UNKNOWN);
        c.due("21 now", x.mend(0, 0, 2, 0), RowsDrawn.UNKNOWN);
        c.due("21 now below", x.mend(0, 0, MIN, 0), RowsDrawn.UNKNOWN);
        c.due("21 the same", x.mend(0, 1, 1, 0), RowsDrawn.UNKNOWN);
        for (int what : new int[] {-1, 4, 9, 13, MIN, MAX}) {
            c.due("21 what " + what, x.mend(0, 0, 1, what), RowsDrawn.OUTSIDE);
            c.due("21 unknown ahead of outside", x.mend(0, 0, 0, what), RowsDrawn.UNKNOWN);
            c.due("21 outside ahead of state", x.mend(1, 0, 1, what), RowsDrawn.OUTSIDE);
        }
        c.due("21 it gives no word there", x.mend(1, 0, 1, 0), RowsDrawn.STATE);
        c.due("21 it gives nothing there", x.mend(2, 0, 1, 12), RowsDrawn.STATE);
    }

    private static void mendEdges() {
        RowsDrawn x = new RowsDrawn();
        Checks.page(x, "a(b1b2b3)");
        Checks.page(x, "a(c3c2)");
        Checks.rule(x, 2, "b");
        Checks.rule(x, 0, "b");
        c.due("21 a cell gives one word alone", x.mend(0, 0, 1, 0), 0);
        c.due("21 all three", x.mend(1, 0, 1, 0), 2);
        c.due("21 backwards", x.mend(1, 1, 0, 0), RowsDrawn.STATE);
        // 23 words on the old page, all of them on the new one.
        StringBuilder many = new StringBuilder("a(");
        for (int i = 1; i <= 23; i++) {
            many.append('b').append(i);
        }
        many.append(")");
        Checks.page(x, many.toString());
        Checks.page(x, many.toString().replace('b', 'e'));
        c.due("21 23 words", x.mend(1, 2, 3, 0), 23);
        c.due("21 by e", x.mend(1, 2, 3, 10), 4);
        c.due("21 sure", x.mend(1, 2, 3, 2), 1);
        c.due("21 all of them", x.mend(1, 2, 3, 3), 0xFFFFFE);
    }
}
