/** Sentences about RULES, and of promises 6, 7 and 9 to 11: reading one, casting it, and what it GIVES. */
final class RuleSentences {
    private static final String CHAIN = "a(".repeat(23) + "a" + ")".repeat(23);

    private RuleSentences() {
    }

    private static void isRule(Checks c, String text, boolean is) {
        RowsDrawn x = new RowsDrawn();
        c.due("rule(0) of '" + text + "'", Checks.rule(x, 0, text), is ? 0 : RowsDrawn.STATE);
        c.due("rules then", x.count(1), is ? 1 : 0);
    }

    private static void gives(Checks c, String page, int sort, String rule, int... boxes) {
        RowsDrawn x = Checks.with(page);
        Checks.rule(x, sort, rule);
        c.due(rule + " of sort " + sort + " on " + page, x.gives(0, 0), Checks.bits(boxes));
    }

    private static void givesFrom(Checks c, String page, int box, String rule, int... boxes) {
        RowsDrawn x = Checks.with(page);
        Checks.rule(x, 0, rule);
        c.due(rule + " from box " + box + " of " + page, x.within(0, 0, box), Checks.bits(boxes));
    }

    // ---- Terms

    @Sentence(promise = 6, inTerms = true, says = "RULES (10 at most, numbered) are texts:")
    static void tenRules(Checks c) {
        RowsDrawn x = Checks.with("a(bcdeabcdea)");
        for (int r = 0; r < 10; r++) {
            c.due("rule " + r, Checks.rule(x, 0, String.valueOf(r)), r);
        }
        c.due("an eleventh", Checks.rule(x, 0, "a"), RowsDrawn.FULL);
        for (int r = 0; r < 10; r++) {
            c.due("what rule " + r + " gives", x.gives(r, 0), Checks.bits(r + 1));
        }
        c.due("what rule 10 gives", x.gives(10, 0), RowsDrawn.UNKNOWN);
    }

    @Sentence(promise = 6, inTerms = true, says = "STEPS (1 to 6) with \"/\" between;")
    static void oneToSixSteps(Checks c) {
        isRule(c, "", false);
        String text = "a";
        for (int steps = 1; steps <= 8; steps++) {
            isRule(c, text, steps <= 6);
            isRule(c, text + "/", false);
            text += steps % 2 == 0 ? "/>" : "/*b";
        }
        isRule(c, "/", false);
        isRule(c, "/a", false);
        isRule(c, "a//a", false);
        isRule(c, "aa", false);
        isRule(c, "a/bb", false);
        isRule(c, "10", false);
        gives(c, CHAIN, 0, "a/a/a/a/a/a", 6);
        gives(c, CHAIN, 0, "a/a/a/a/a", 5);
    }

    @Sentence(promise = 9, inTerms = true, says = "STEP: a letter a to e (all BOXES of that KIND right within one),")
    static void letterSteps(Checks c) {
        for (int code = 1; code <= 126; code++) {
            String sign = String.valueOf((char) code);
            isRule(c, sign, sign.matches("[a-e0-9>]"));
        }
        String page = "a(abcdea(abcde)bcde)";
        for (int kind = 0; kind < 5; kind++) {
            int second = kind == 0 ? 6 : 11 + kind;
            gives(c, page, 0, String.valueOf((char) ('a' + kind)), kind + 1, second);
        }
        gives(c, "a", 0, "a");
        gives(c, "a(b(a))", 0, "a");
    }

    @Sentence(promise = 9, inTerms = true, says = "a digit 0 to 9 (of those right within one that one, 0 the first),")
    static void digitSteps(Checks c) {
        for (int many = 1; many <= 12; many++) {
            String page = "a(" + "b".repeat(many) + ")";
            for (int digit = 0; digit <= 9; digit++) {
                int[] want = digit < many ? new int[] {digit + 1} : new int[0];
                gives(c, page, 0, String.valueOf(digit), want);
            }
        }
        gives(c, "a(b(cc)d(e)a)", 0, "1", 4);
        gives(c, "a(b(cc)d(e)a)", 0, "2", 6);
        gives(c, "a(b(cc)d(e)a)", 0, "3");
        gives(c, "a", 0, "0");
    }

    @Sentence(promise = 9, inTerms = true, says = "\"*\" and a letter (all of that KIND within one, however deep),")
    static void deepSteps(Checks c) {
        int[] all = new int[23];
        for (int b = 1; b < 24; b++) {
            all[b - 1] = b;
        }
        gives(c, CHAIN, 0, "*a", all);
        givesFrom(c, CHAIN, 22, "*a", 23);
        givesFrom(c, CHAIN, 23, "*a");
        gives(c, "a(b(abcde)e(a(c)))", 0, "*a", 2, 8);
        gives(c, "a(b(abcde)e(a(c)))", 0, "*b", 1, 3);
        gives(c, "a(b(abcde)e(a(c)))", 0, "*c", 4, 9);
        gives(c, "a(b(abcde)e(a(c)))", 0, "*d", 5);
        gives(c, "a(b(abcde)e(a(c)))", 0, "*e", 6, 7);
        givesFrom(c, "a(b(abcde)e(a(c)))", 1, "*c", 4);
        for (int code = 1; code <= 126; code++) {
            isRule(c, "*" + (char) code, code >= 'a' && code <= 'e');
        }
        isRule(c, "*", false);
    }

    @Sentence(promise = 9, inTerms = true, says = "or \">\" (the next one behind it within its PARENT).")
    static void nextSteps(Checks c) {
        String page = "a(b(cd)ea(b))";
        gives(c, page, 0, ">");
        givesFrom(c, page, 1, ">", 4);
        givesFrom(c, page, 2, ">", 3);
        givesFrom(c, page, 3, ">");
        givesFrom(c, page, 4, ">", 5);
        givesFrom(c, page, 5, ">");
        givesFrom(c, page, 6, ">");
        givesFrom(c, "a(" + "b".repeat(23) + ")", 22, ">", 23);
        givesFrom(c, "a(" + "b".repeat(23) + ")", 23, ">");
        gives(c, "a", 0, ">");
    }

    @Sentence(promise = 9, inTerms = true, says = "A RULE goes from a set of BOXES; "
        + "each STEP leads to all to which it leads from some of the set.")
    static void stepsFromSets(Checks c) {
        String page = "a(b(cd)b(e)b(ccd(c)))";
        gives(c, page, 0, "b/0", 2, 5, 7);
        gives(c, page, 0, "b/1", 3, 8);
        gives(c, page, 0, "b/2", 9);
        gives(c, page, 0, "b/c", 2, 7, 8);
        gives(c, page, 0, "b/>", 4, 6);
        gives(c, page, 0, "*c/>", 3, 8, 9);
        // From both the outer and the inner one: what each leads to, once.
        gives(c, "a(b(b(b)))", 0, "*b/*b", 2, 3);
        gives(c, page, 0, "e/b");
    }

    @Sentence(promise = 6, inTerms = true, says = "RULES are of SORTS: 0 RULE, 1 ROW, 2 CELL, 3 WORDS, 4 FIRST, 5 REST.")
    static void sortsByNumber(Checks c) {
        // With b of boxes 1 (blank leaf), 2 (row), 4 (word), 5 (row with a word) each sort gives another set.
        int[] want = {Checks.bits(1, 2, 4, 5), Checks.bits(2, 5), Checks.bits(1), Checks.bits(4, 5), Checks.bits(2),
            Checks.bits(5)};
        RowsDrawn x = Checks.with("a(bb(c)b1b2(d))");
        for (int sort = 0; sort < 6; sort++) {
            c.due("rule(" + sort + ")", Checks.rule(x, sort, "b"), sort);
            c.due("what it gives", x.gives(sort, 0), want[sort]);
        }
    }

    @Sentence(promise = 7, inTerms = true, says = "All are RULES; FIRST and REST are ROWS.")
    static void whichSortsAreWhich(Checks c) {
        RowsDrawn x = new RowsDrawn();
        for (int sort = 0; sort < 6; sort++) {
            Checks.rule(x, sort, "b");
            c.due("sort " + sort + " as a RULE", x.as(sort, 0), sort);
        }
        c.due("a FIRST as a ROW", x.as(4, 1), 4);
        c.due("a REST as a ROW", x.as(5, 1), 5);
        c.due("a RULE as a ROW", x.as(0, 1), RowsDrawn.NONE);
        c.due("a CELL as a ROW", x.as(2, 1), RowsDrawn.NONE);
        c.due("WORDS as a ROW", x.as(3, 1), RowsDrawn.NONE);
        c.due("a ROW as a FIRST", x.as(1, 4), RowsDrawn.NONE);
        c.due("a ROW as a REST", x.as(1, 5), RowsDrawn.NONE);
        c.due("a FIRST as a REST", x.as(4, 5), RowsDrawn.NONE);
        c.due("a REST as a FIRST", x.as(5, 4), RowsDrawn.NONE);
    }

    @Sentence(promise = 9, inTerms = true, says = "GIVES from a set of BOXES: a RULE all to which its STEPS lead;")
    static void aRuleGivesAll(Checks c) {
        gives(c, "a(bb(c)b1)", 0, "b", 1, 2, 4);
        gives(c, "a(bb(c)b1)", 0, "e");
    }

    @Sentence(promise = 9, inTerms = true, says = "a ROW of what a RULE gives those with some BOX within;")
    static void aRowGivesThoseWithBoxesWithin(Checks c) {
        gives(c, "a(bb(c)b1b2(d))", 1, "b", 2, 5);
        gives(c, "a(bbb)", 1, "b");
        gives(c, "a(b(c))", 1, "b", 1);
        gives(c, "a(c)", 1, "b");
    }

    @Sentence(promise = 9, inTerms = true, says = "a CELL the least of what a RULE gives;")
    static void aCellGivesTheLeast(Checks c) {
        gives(c, "a(cb(c)b1)", 2, "b", 2);
        gives(c, "a(b(c)c)", 2, "*c", 2);
        gives(c, "a(cb)", 2, "b", 2);
        gives(c, "a(c)", 2, "b");
    }

    @Sentence(promise = 9, inTerms = true, says = "WORDS of what a RULE gives those with a WORD;")
    static void wordsGiveThoseWithAWord(Checks c) {
        gives(c, "a(bb(c5)b0b99(d))", 3, "b", 4, 5);
        gives(c, "a(bb(c5))", 3, "b");
        gives(c, "a(c5)", 3, "b");
    }

    @Sentence(promise = 9, inTerms = true, says = "a FIRST the least of what a ROW gives;")
    static void aFirstGivesTheLeastRow(Checks c) {
        gives(c, "a(bb(c)b1b2(d))", 4, "b", 2);
        gives(c, "a(b(c))", 4, "b", 1);
        gives(c, "a(bbb)", 4, "b");
        gives(c, "a(c)", 4, "b");
    }

    @Sentence(promise = 9, inTerms = true, says = "a REST what a ROW gives but for the least.")
    static void aRestGivesTheOtherRows(Checks c) {
        gives(c, "a(bb(c)b1b2(d)b(e))", 5, "b", 5, 7);
        gives(c, "a(b(c)bb)", 5, "b");
        gives(c, "a(bbb)", 5, "b");
        gives(c, "a(c)", 5, "b");
    }

    @Sentence(promise = 9, inTerms = true, says = "GIVES on a PAGE: from its ROOT.")
    static void givesFromTheRoot(Checks c) {
        RowsDrawn x = Checks.with("a(b(b)c(b))");
        Checks.rule(x, 0, "b");
        c.due("gives", x.gives(0, 0), Checks.bits(1));
        c.due("within of the root", x.within(0, 0, 0), Checks.bits(1));
    }

    // ---- promise 6

    @Sentence(promise = 6, says = "THE SHEET is read as a RULE of a SORT: its number;")
    static void ruleOfASort(Checks c) {
        RowsDrawn x = Checks.with("a(b1b2)");
        c.due("the shortest", Checks.rule(x, 2, "b"), 0);
        c.due("the longest", Checks.rule(x, 3, "*a/*b/*c/*d/*e/*a"), 1);
        c.due("the first as a CELL", x.as(0, 2), 0);
        c.due("the second as WORDS", x.as(1, 3), 1);
    }

    @Sentence(promise = 6, says = "THE SHEET is empty then.")
    static void sheetIsEmptyBehindARule(Checks c) {
        RowsDrawn x = new RowsDrawn();
        Checks.rule(x, 0, "a/b");
        c.due("letters", x.count(3), 0);
        c.due("blank()", x.blank(), 0);
        c.due("rule(0) again", x.rule(0), RowsDrawn.STATE);
    }

    @Sentence(promise = 6, says = "OUTSIDE;")
    static void ruleOfNoSort(Checks c) {
        RowsDrawn x = new RowsDrawn();
        c.refuses("rule(sort) of nothing", 0, 5, x::rule, RowsDrawn.OUTSIDE);
        Checks.write(x, "a");
        long before = x.digest();
        for (int sort : new int[] {-1, 6, Integer.MIN_VALUE, Integer.MAX_VALUE}) {
            c.due("rule(" + sort + ")", x.rule(sort), RowsDrawn.OUTSIDE);
        }
        c.due("nothing changed", x.digest(), before);
        c.due("rule(5) then", x.rule(5), 0);
    }

    @Sentence(promise = 6, says = "STATE: it is none;")
    static void sheetsThatAreNoRule(Checks c) {
        for (String text : new String[] {"", "*", "a/", "a/*", "/", "a(b)", "f", "a/b/c/d/e/a/b", "a b", "**", "*1", "ab"}) {
            RowsDrawn x = new RowsDrawn();
            Checks.write(x, text);
            long before = x.digest();
            c.due("rule(0) of '" + text + "'", x.rule(0), RowsDrawn.STATE);
            c.due("nothing changed", x.digest(), before);
        }
        RowsDrawn x = new RowsDrawn();
        Checks.rule(x, 0, "a/");
        c.due("it can go on", x.letters('b'), 3);
        c.due("rule(0) then", x.rule(0), 0);
    }

    @Sentence(promise = 6, says = "FULL.")
    static void eleventhRule(Checks c) {
        RowsDrawn x = new RowsDrawn();
        for (int r = 0; r < 10; r++) {
            c.due("rule " + r, Checks.rule(x, 0, "a"), r);
        }
        Checks.write(x, "b");
        long before = x.digest();
        c.due("an eleventh", x.rule(0), RowsDrawn.FULL);
        c.due("nothing changed", x.digest(), before);
        c.due("no sort is told ahead of full", x.rule(6), RowsDrawn.OUTSIDE);
        c.due("as a page it is read", x.page(), 0);
        c.due("none is told ahead of full", x.rule(0), RowsDrawn.STATE);
    }

    // ---- promise 7

    @Sentence(promise = 7, says = "A RULE taken as a SORT: its number;")
    static void castsThatStand(Checks c) {
        RowsDrawn x = new RowsDrawn();
        for (int r = 0; r < 10; r++) {
            Checks.rule(x, r % 6, "a");
            c.due("as(" + r + ", its own sort)", x.as(r, r % 6), r);
        }
        c.due("as its own sort afterwards", x.as(4, 4), 4);
        c.due("as a RULE", x.as(9, 0), 9);
        c.due("it stays what it was", x.as(9, 3), 9);
    }

    @Sentence(promise = 7, says = "NONE: it is none such (the cast fails).")
    static void castsThatFail(Checks c) {
        RowsDrawn x = new RowsDrawn();
        for (int r = 0; r < 6; r++) {
            Checks.rule(x, r, "a");
            for (int sort = 1; sort < 6; sort++) {
                boolean is = sort == r || sort == 1 && r >= 4;
                c.due("as(" + r + ", " + sort + ")", x.as(r, sort), is ? r : RowsDrawn.NONE);
            }
        }
    }

    @Sentence(promise = 7, says = "UNKNOWN;")
    static void castOfNoRule(Checks c) {
        RowsDrawn x = new RowsDrawn();
        c.due("no rule at all", x.as(0, 0), RowsDrawn.UNKNOWN);
        Checks.rule(x, 1, "a");
        Checks.rule(x, 2, "a");
        c.refuses("as(rule, 0)", 0, 1, r -> x.as(r, 0), RowsDrawn.UNKNOWN);
        c.due("unknown ahead of outside", x.as(2, 6), RowsDrawn.UNKNOWN);
    }

    @Sentence(promise = 7, says = "OUTSIDE.")
    static void castToNoSort(Checks c) {
        RowsDrawn x = new RowsDrawn();
        Checks.rule(x, 1, "a");
        c.refuses("as(0, sort)", 0, 5, sort -> x.as(0, sort), RowsDrawn.OUTSIDE);
    }

    // ---- promise 9

    @Sentence(promise = 9, says = "What a RULE GIVES on a PAGE, as bits of BOXES.")
    static void bitsOfBoxes(Checks c) {
        RowsDrawn x = Checks.with("a(" + "b".repeat(22) + "c)", "a");
        Checks.rule(x, 0, "b");
        Checks.rule(x, 0, "c");
        c.due("22 boxes", x.gives(0, 0), 0x7FFFFE);
        c.due("the last box there can be", x.gives(1, 0), 1 << 23);
        c.due("none", x.gives(0, 1), 0);
    }

    @Sentence(promise = 9, says = "UNKNOWN.")
    static void givesOfUnknown(Checks c) {
        RowsDrawn x = Checks.with("a(b)", "a(b)");
        Checks.rule(x, 0, "b");
        c.refuses("gives(rule, 0)", 0, 0, r -> x.gives(r, 0), RowsDrawn.UNKNOWN);
        c.refuses("gives(0, page)", 0, 1, p -> x.gives(0, p), RowsDrawn.UNKNOWN);
        c.due("neither rules nor pages", new RowsDrawn().gives(0, 0), RowsDrawn.UNKNOWN);
    }

    // ---- promise 10

    @Sentence(promise = 10, says = "The WORD of the i-th BOX that it gives there (from 0):")
    static void wordsInOrder(Checks c) {
        RowsDrawn x = Checks.with("a(b0c1b2(b3)b99)");
        Checks.rule(x, 0, "b");
        Checks.rule(x, 3, "*b");
        Checks.rule(x, 2, "b");
        int[] b = {0, 2, 99};
        for (int i = 0; i < b.length; i++) {
            c.due("word(0, 0, " + i + ")", x.word(0, 0, i), b[i]);
        }
        c.due("the third of all", x.word(1, 0, 2), 3);
        c.due("of a cell", x.word(2, 0, 0), 0);
    }

    @Sentence(promise = 10, says = "NONE: it has none;")
    static void noWord(Checks c) {
        RowsDrawn x = Checks.with("a5(bb0b)");
        Checks.rule(x, 0, "b");
        c.due("the first", x.word(0, 0, 0), RowsDrawn.NONE);
        c.due("the second has 0", x.word(0, 0, 1), 0);
        c.due("the third", x.word(0, 0, 2), RowsDrawn.NONE);
    }

    @Sentence(promise = 10, says = "-2: there is no such BOX.")
    static void noSuchBox(Checks c) {
        RowsDrawn x = Checks.with("a(b1b2b)", "a(c)");
        Checks.rule(x, 0, "b");
        c.refuses("word(0, 0, i)", 0, 2, i -> x.word(0, 0, i), -2);
        c.due("where it gives nothing", x.word(0, 1, 0), -2);
        RowsDrawn full = Checks.with("a(" + "b1".repeat(23) + ")");
        Checks.rule(full, 0, "b");
        c.refuses("word(0, 0, i) of 23", 0, 22, i -> full.word(0, 0, i), -2);
    }

    @Sentence(promise = 10, says = "UNKNOWN.")
    static void wordOfUnknown(Checks c) {
        RowsDrawn x = Checks.with("a(b1)", "a(b2)");
        Checks.rule(x, 0, "b");
        c.refuses("word(rule, 0, 0)", 0, 0, r -> x.word(r, 0, 0), RowsDrawn.UNKNOWN);
        c.refuses("word(0, page, 0)", 0, 1, p -> x.word(0, p, 0), RowsDrawn.UNKNOWN);
        c.due("ahead of no such box", x.word(1, 0, -1), RowsDrawn.UNKNOWN);
        c.due("an unknown page ahead of no such box", x.word(0, 2, 9), RowsDrawn.UNKNOWN);
    }

    // ---- promise 11

    @Sentence(promise = 11, says = "What a RULE GIVES from one BOX alone, as bits.")
    static void fromOneBoxAlone(Checks c) {
        RowsDrawn x = Checks.with("a(b(c1c(d))b(c)cb)");
        Checks.rule(x, 0, "c");
        Checks.rule(x, 1, "*c");
        Checks.rule(x, 0, ">");
        c.due("from the root", x.within(0, 0, 0), Checks.bits(7));
        c.due("from the first b", x.within(0, 0, 1), Checks.bits(2, 3));
        c.due("from the second b", x.within(0, 0, 5), Checks.bits(6));
        c.due("from a leaf, the last box", x.within(0, 0, 8), 0);
        c.due("a row from the first b", x.within(1, 0, 1), Checks.bits(3));
        c.due("a row from the second b", x.within(1, 0, 5), 0);
        c.due("the next one of the first b", x.within(2, 0, 1), Checks.bits(5));
    }

    @Sentence(promise = 11, says = "UNKNOWN: rule, page, box.")
    static void withinUnknown(Checks c) {
        RowsDrawn x = Checks.with("a(b1)", "a(b2b)");
        Checks.rule(x, 0, "b");
        c.refuses("within(rule, 0, 0)", 0, 0, r -> x.within(r, 0, 0), RowsDrawn.UNKNOWN);
        c.refuses("within(0, page, 0)", 0, 1, p -> x.within(0, p, 0), RowsDrawn.UNKNOWN);
        c.refuses("within(0, 0, box)", 0, 1, b -> x.within(0, 0, b), RowsDrawn.UNKNOWN);
        c.refuses("within(0, 1, box)", 0, 2, b -> x.within(0, 1, b), RowsDrawn.UNKNOWN);
    }
}
