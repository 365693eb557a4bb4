/** Sentences about PAGES beside PAGES, and of promises 22 to 25. */
final class BesideSentences {
    private BesideSentences() {
    }

    private static void like(Checks c, String one, String other, int want) {
        RowsDrawn x = Checks.with(one, other);
        c.due("like of " + one + " and " + other, x.like(0, 1), want);
        c.due("like of " + other + " and " + one, x.like(1, 0), want);
    }

    // ---- Terms

    @Sentence(promise = 22, inTerms = true, says = "LIKE: of two BOXES: 0, if their KINDS are unlike; else 1,")
    static void unlikeKinds(Checks c) {
        String kinds = "abcde";
        for (int i = 0; i < 5; i++) {
            for (int j = 0; j < 5; j++) {
                like(c, kinds.charAt(i) + "1", kinds.charAt(j) + "2", i == j ? 1 : 0);
            }
        }
        like(c, "a7(b(c))", "b7(b(c))", 0);
        like(c, "a(b7(c))", "a(d7(c))", 2);
    }

    @Sentence(promise = 22, inTerms = true, says = "and 1 more, if they have the same WORD or both none,")
    static void sameWordOrBothNone(Checks c) {
        like(c, "a", "a", 2);
        like(c, "a5", "a5", 2);
        like(c, "a5", "a05", 2);
        like(c, "a0", "a", 1);
        like(c, "a0", "a00", 2);
        like(c, "a5", "a6", 1);
        like(c, "a99", "a", 1);
        like(c, "a99", "a99", 2);
    }

    @Sentence(promise = 22, inTerms = true, says = "and the most that pairs of BOXES right within them give together, "
        + "each in one pair at most, no two pairs crossing.")
    static void pairsWithin(Checks c) {
        like(c, "a(b)", "a", 2);
        like(c, "a(b)", "a(b)", 4);
        like(c, "a(b)", "a(bb)", 4);
        like(c, "a(bb)", "a(bb)", 6);
        like(c, "a(bc)", "a(cb)", 4);
        like(c, "a(b1b2)", "a(b2b1)", 4);
        like(c, "a(b1b2b3)", "a(b3b1b2)", 6);
        like(c, "a(b1cb2)", "a(b2cb1)", 6);
        // Right within alone: a c is not paired with one that is deeper.
        like(c, "a(b(c))", "a(c)", 2);
        like(c, "a(b(c))", "a(b(c))", 6);
        // One pair that gives 8 beats the two that give 4 and would cross it.
        like(c, "a(bcd(eee))", "a(d(eee)bc)", 10);
        like(c, "a(d(eee)bc)", "a(bcd(e))", 6);
        String flat = "a(" + "b".repeat(23) + ")";
        like(c, flat, flat, 48);
        String deep = "a(".repeat(23) + "a" + ")".repeat(23);
        like(c, deep, deep, 48);
        like(c, deep, "a(".repeat(22) + "a" + ")".repeat(22), 46);
    }

    @Sentence(promise = 22, inTerms = true, says = "Of two PAGES: of their ROOTS.")
    static void likeOfRoots(Checks c) {
        like(c, "a(b(c))", "b(c)", 0);
        like(c, "a(b)", "a", 2);
        like(c, "a", "b(a)", 0);
    }

    @Sentence(promise = 23, inTerms = true, says = "NEAREST of a PAGE: another one most LIKE it, of like ones the least.")
    static void nearestOfLikeOnesTheLeast(Checks c) {
        RowsDrawn x = Checks.with("a(bc)", "a(b)", "a(bcd)", "a(bc)", "a(bc)", "d", "e", "b(bc)");
        c.due("of page 0: 2, 3 and 4 are alike", x.nearest(0), 2);
        c.due("of page 3", x.nearest(3), 0);
        c.due("of page 1", x.nearest(1), 0);
        c.due("of page 5: none is like it", x.nearest(5), 0);
        c.due("of the last", x.nearest(7), 0);
        c.due("the last of eight", Checks.with("a", "b", "b", "b", "b", "b", "b", "a").nearest(0), 7);
        c.due("the first, though not like it", Checks.with("c", "b", "a").nearest(0), 1);
    }

    // On PAGE 0: keys 1 2 - 1, values 10 - 30 40. On PAGE 1: keys 1 3 2 1 -, values 50 60 70 - -.
    private static final String LEFT = "a(b(c1d10)b(c2)b(cd30)b(c1d40))";
    private static final String RIGHT = "a(b(c1d50)b(c3d60)b(d70c2)b(c1d)b(e))";

    private static RowsDrawn tables(String left, String right) {
        RowsDrawn x = Checks.with(left, right);
        Checks.rule(x, 1, "b");
        Checks.rule(x, 2, "c");
        Checks.rule(x, 2, "d");
        return x;
    }

    private static void joined(Checks c, RowsDrawn x, int what, int want) {
        c.due("joined(0, 1, 2, 0, 1, " + what + ")", x.joined(0, 1, 2, 0, 1, what), want);
    }

    @Sentence(promise = 25, inTerms = true, says = "JOINED: a ROW rule, two CELL rules k, l and two PAGES: "
        + "ROWS of a PAGE: what the first RULE gives, in order;")
    static void rowsInOrder(Checks c) {
        RowsDrawn x = tables("a(b(c5)bb(c4)e(c9)b(c3))", RIGHT);
        int[] keys = {5, 4, 3, -2};
        for (int i = 0; i < keys.length; i++) {
            c.due("key(0, 1, 0, " + i + ")", x.key(0, 1, 0, i), keys[i]);
        }
        Checks.rule(x, 4, "b");
        Checks.rule(x, 5, "b");
        c.due("rows of a FIRST", x.key(3, 1, 0, 0), 5);
        c.due("and no other", x.key(3, 1, 0, 1), -2);
        c.due("rows of a REST", x.key(4, 1, 0, 0), 4);
        c.due("of a REST joined with itself", x.joined(4, 1, 2, 0, 0, 0), 2);
    }

    @Sentence(promise = 25, inTerms = true, says = "each has as KEY the WORD of the first BOX that k gives from it,")
    static void keyIsTheFirstWord(Checks c) {
        RowsDrawn x = tables("a(b(dc7c8)b(e(c5)c6)b(c0))", RIGHT);
        Checks.rule(x, 0, "c");
        Checks.rule(x, 0, "*c");
        Checks.rule(x, 3, "c");
        for (int k : new int[] {1, 3, 5}) {
            c.due("first of two by rule " + k, x.key(0, k, 0, 0), 7);
            c.due("right within by rule " + k, x.key(0, k, 0, 1), 6);
            c.due("a key of 0 by rule " + k, x.key(0, k, 0, 2), 0);
        }
        c.due("the first however deep", x.key(0, 4, 0, 1), 5);
    }

    @Sentence(promise = 24, inTerms = true, says = "as VALUE that of the first that l gives from it")
    static void valueIsTheFirstWord(Checks c) {
        RowsDrawn x = tables("a(b(c1d7d8))", "a(b(c1ed0d9))");
        Checks.rule(x, 0, "d");
        for (int l : new int[] {2, 3}) {
            c.due("on p by rule " + l, x.joined(0, 1, l, 0, 1, 10), 7);
            c.due("on q by rule " + l, x.joined(0, 1, l, 0, 1, 40), 0);
        }
    }

    @Sentence(promise = 24, inTerms = true, says = "(none, if there is no such BOX, or it has no WORD).")
    static void noKeyAndNoValue(Checks c) {
        RowsDrawn x = tables("a(b(e)b(cc5)b(c1)b(c2dd5))", "a(b(e)b(c)b(c1d)b(c2d9))");
        c.due("no such box: no key", x.key(0, 1, 0, 0), RowsDrawn.NONE);
        c.due("the first has no word: no key", x.key(0, 1, 0, 1), RowsDrawn.NONE);
        joined(c, x, 0, 2);
        c.due("no such box: no value", x.joined(0, 1, 2, 0, 1, 10), RowsDrawn.NONE);
        c.due("no word: no value", x.joined(0, 1, 2, 0, 1, 40), RowsDrawn.NONE);
        c.due("the first has no word: no value", x.joined(0, 1, 2, 0, 1, 11), RowsDrawn.NONE);
        c.due("a value", x.joined(0, 1, 2, 0, 1, 41), 9);
        Checks.rule(x, 0, "c");
        Checks.rule(x, 0, "d");
        c.due("the first of two has no word: no key", x.key(0, 3, 0, 1), RowsDrawn.NONE);
        c.due("the first of two has no word: no value", x.joined(0, 3, 4, 0, 1, 11), RowsDrawn.NONE);
    }

    @Sentence(promise = 24, inTerms = true, says = "Pairs of a ROW of each PAGE with the same KEY (not none): how many;")
    static void pairsOfTheSameKey(Checks c) {
        joined(c, tables(LEFT, RIGHT), 0, 5);
        joined(c, tables("a(b(c1))", "a(b(c2))"), 0, 0);
        joined(c, tables("a(b(c0))", "a(b(c00))"), 0, 1);
        joined(c, tables("a(b(c99))", "a(b(c99))"), 0, 1);
        joined(c, tables("a(b(c)b(c))", "a(b(c)b(e))"), 0, 0);
        joined(c, tables("a", "a"), 0, 0);
        joined(c, tables("a(b(c1)b(c1)b(c1))", "a(b(c1)b(c1))"), 0, 6);
        // As many as there can be: 23 rows, each with the next one's word, but for the last.
        RowsDrawn x = Checks.with("a(" + "b1".repeat(23) + ")");
        Checks.rule(x, 0, "b");
        Checks.rule(x, 0, ">");
        c.due("22 times 22", x.joined(0, 1, 1, 0, 0, 0), 484);
    }

    @Sentence(promise = 24, inTerms = true, says = "in order (by the first one's ROW, then the second one's): "
        + "the VALUES of both.")
    static void pairsInOrder(Checks c) {
        RowsDrawn x = tables(LEFT, RIGHT);
        int[] left = {10, 10, -1, 40, 40, -2};
        int[] right = {50, -1, 70, 50, -1, -2};
        for (int i = 0; i < left.length; i++) {
            joined(c, x, 10 + i, left[i]);
            joined(c, x, 40 + i, right[i]);
        }
        int[] turned = {50, 50, 70, -1, -1, -2};
        for (int i = 0; i < turned.length; i++) {
            c.due("with the pages turned, " + i, x.joined(0, 1, 2, 1, 0, 10 + i), turned[i]);
        }
    }

    // ---- promise 22

    @Sentence(promise = 22, says = "LIKE of two PAGES.")
    static void likeOfPages(Checks c) {
        like(c, "a(b1c(d))", "a(b2c(d5e))", 6);
        RowsDrawn x = Checks.with("a", "b", "c", "d", "e", "a1", "a2", "b(a)");
        c.due("first and last", x.like(0, 7), 0);
        c.due("last and second", x.like(7, 1), 2);
    }

    @Sentence(promise = 22, says = "UNKNOWN (one with itself may be asked).")
    static void likeOfUnknown(Checks c) {
        c.due("no page at all", new RowsDrawn().like(0, 0), RowsDrawn.UNKNOWN);
        RowsDrawn x = Checks.with("a1(b(c2)d)", "a");
        c.refuses("like(p, 1)", 0, 1, p -> x.like(p, 1), RowsDrawn.UNKNOWN);
        c.refuses("like(0, q)", 0, 1, q -> x.like(0, q), RowsDrawn.UNKNOWN);
        c.due("both unknown", x.like(2, 2), RowsDrawn.UNKNOWN);
        c.due("with itself", x.like(0, 0), 8);
        c.due("the other with itself", x.like(1, 1), 2);
    }

    // ---- promise 23

    @Sentence(promise = 23, says = "NEAREST; NONE: there is no other one.")
    static void noOtherPage(Checks c) {
        RowsDrawn x = Checks.with("a(b)");
        c.due("alone", x.nearest(0), RowsDrawn.NONE);
        Checks.page(x, "c");
        c.due("with another", x.nearest(0), 1);
        c.due("the other way", x.nearest(1), 0);
    }

    @Sentence(promise = 23, says = "UNKNOWN.")
    static void nearestOfUnknown(Checks c) {
        c.due("no page at all", new RowsDrawn().nearest(0), RowsDrawn.UNKNOWN);
        RowsDrawn x = Checks.with("a", "b", "c");
        c.refuses("nearest(page)", 0, 2, x::nearest, RowsDrawn.UNKNOWN);
    }

    // ---- promise 24

    /** Six ROWS of the same KEY, with VALUES from first on. */
    private static String sixRows(int first) {
        StringBuilder text = new StringBuilder("a(");
        for (int i = 0; i < 6; i++) {
            text.append("b(c1d").append(first + i).append(")");
        }
        return text.append(")").toString();
    }

    @Sentence(promise = 24, says = "JOINED: what = 0 how many pairs,")
    static void howManyPairs(Checks c) {
        joined(c, tables(LEFT, RIGHT), 0, 5);
        joined(c, tables("a(b(c1))", "a(c)"), 0, 0);
        joined(c, tables(sixRows(10), sixRows(20)), 0, 36);
    }

    @Sentence(promise = 24, says = "10 and i the VALUE of the i-th pair's ROW on p,")
    static void valuesOnTheFirst(Checks c) {
        RowsDrawn x = tables(sixRows(10), sixRows(20));
        for (int i = 0; i < 30; i++) {
            joined(c, x, 10 + i, 10 + i / 6);
        }
    }

    @Sentence(promise = 24, says = "40 and i on q")
    static void valuesOnTheSecond(Checks c) {
        RowsDrawn x = tables(sixRows(10), sixRows(20));
        for (int i = 0; i < 30; i++) {
            joined(c, x, 40 + i, 20 + i % 6);
        }
    }

    @Sentence(promise = 24, says = "(NONE: none; -2: there is no such pair).")
    static void noValueAndNoPair(Checks c) {
        RowsDrawn x = tables("a(b(c1))", "a(b(c1d))");
        joined(c, x, 10, RowsDrawn.NONE);
        joined(c, x, 40, RowsDrawn.NONE);
        for (int i = 1; i < 30; i++) {
            joined(c, x, 10 + i, -2);
            joined(c, x, 40 + i, -2);
        }
        RowsDrawn none = tables("a(b(c1))", "a(b(c2))");
        joined(c, none, 10, -2);
        joined(c, none, 40, -2);
    }

    @Sentence(promise = 24, says = "UNKNOWN: row, k, l, p, q (p and q may be the same);")
    static void joinedOfUnknown(Checks c) {
        c.due("nothing at all", new RowsDrawn().joined(0, 0, 0, 0, 0, 0), RowsDrawn.UNKNOWN);
        RowsDrawn x = tables(LEFT, RIGHT);
        c.refuses("joined(row, 1, 2, 0, 1, 0)", 0, 2, n -> x.joined(n, 1, 2, 0, 1, 0), RowsDrawn.UNKNOWN);
        c.refuses("joined(0, k, 2, 0, 1, 0)", 0, 2, n -> x.joined(0, n, 2, 0, 1, 0), RowsDrawn.UNKNOWN);
        c.refuses("joined(0, 1, l, 0, 1, 0)", 0, 2, n -> x.joined(0, 1, n, 0, 1, 0), RowsDrawn.UNKNOWN);
        c.refuses("joined(0, 1, 2, p, 1, 0)", 0, 1, n -> x.joined(0, 1, 2, n, 1, 0), RowsDrawn.UNKNOWN);
        c.refuses("joined(0, 1, 2, 0, q, 0)", 0, 1, n -> x.joined(0, 1, 2, 0, n, 0), RowsDrawn.UNKNOWN);
        c.due("p and q the same", x.joined(0, 1, 2, 0, 0, 0), 5);
        c.due("p and q the other one", x.joined(0, 1, 2, 1, 1, 0), 6);
        c.due("unknown ahead of outside", x.joined(0, 1, 3, 0, 1, 70), RowsDrawn.UNKNOWN);
        c.due("unknown page ahead of outside", x.joined(0, 1, 2, 0, 2, 9), RowsDrawn.UNKNOWN);
    }

    @Sentence(promise = 24, says = "OUTSIDE: what (10 to 39, 40 to 69 else).")
    static void joinedOfOther(Checks c) {
        RowsDrawn x = tables(LEFT, RIGHT);
        c.refuses("joined(0, 1, 2, 0, 1, what)", 0, 0, what -> x.joined(0, 1, 2, 0, 1, what), RowsDrawn.OUTSIDE);
        c.refuses("joined(0, 1, 2, 0, 1, what)", 10, 69, what -> x.joined(0, 1, 2, 0, 1, what), RowsDrawn.OUTSIDE);
        for (int what = 1; what < 10; what++) {
            joined(c, x, what, RowsDrawn.OUTSIDE);
        }
    }

    // ---- promise 25

    @Sentence(promise = 25, says = "The KEY of the i-th ROW on a PAGE by row and k;")
    static void keysOfRows(Checks c) {
        RowsDrawn x = tables(LEFT, RIGHT);
        int[] left = {1, 2, -1, 1};
        int[] right = {1, 3, 2, 1, -1};
        for (int i = 0; i < left.length; i++) {
            c.due("key(0, 1, 0, " + i + ")", x.key(0, 1, 0, i), left[i]);
        }
        for (int i = 0; i < right.length; i++) {
            c.due("key(0, 1, 1, " + i + ")", x.key(0, 1, 1, i), right[i]);
        }
        c.due("by another k", x.key(0, 2, 1, 2), 70);
    }

    @Sentence(promise = 25, says = "NONE;")
    static void noKey(Checks c) {
        RowsDrawn x = tables("a(b(c)b(d1)b(c0))", "a");
        c.due("a box without a word", x.key(0, 1, 0, 0), RowsDrawn.NONE);
        c.due("no such box", x.key(0, 1, 0, 1), RowsDrawn.NONE);
        c.due("the word 0", x.key(0, 1, 0, 2), 0);
    }

    @Sentence(promise = 25, says = "-2: there is no such ROW.")
    static void noSuchRow(Checks c) {
        RowsDrawn x = tables(LEFT, "a");
        c.refuses("key(0, 1, 0, i)", 0, 3, i -> x.key(0, 1, 0, i), -2);
        c.due("no row at all", x.key(0, 1, 1, 0), -2);
        RowsDrawn full = Checks.with("a(" + "b".repeat(23) + ")");
        Checks.rule(full, 0, "b");
        c.refuses("key(0, 0, 0, i) of 23", 0, 22, i -> full.key(0, 0, 0, i), -2);
    }

    @Sentence(promise = 25, says = "UNKNOWN.")
    static void keyOfUnknown(Checks c) {
        c.due("nothing at all", new RowsDrawn().key(0, 0, 0, 0), RowsDrawn.UNKNOWN);
        RowsDrawn x = tables(LEFT, RIGHT);
        c.refuses("key(row, 1, 0, 0)", 0, 2, n -> x.key(n, 1, 0, 0), RowsDrawn.UNKNOWN);
        c.refuses("key(0, k, 0, 0)", 0, 2, n -> x.key(0, n, 0, 0), RowsDrawn.UNKNOWN);
        c.refuses("key(0, 1, page, 0)", 0, 1, n -> x.key(0, 1, n, 0), RowsDrawn.UNKNOWN);
        c.due("ahead of no such row", x.key(0, 3, 0, -1), RowsDrawn.UNKNOWN);
    }
}
