/** Sentences about MENDS, and of promise 21. */
final class MendSentences {
    private MendSentences() {
    }

    /** An old PAGE, a new one, and the RULE b. */
    private static RowsDrawn changed(String old, String now) {
        RowsDrawn x = Checks.with(old, now);
        Checks.rule(x, 0, "b");
        return x;
    }

    private static void mended(Checks c, String old, String now, int what, int want) {
        c.due("mend(0, 0, 1, " + what + ") of b from " + old + " to " + now, changed(old, now).mend(0, 0, 1, what), want);
    }

    private static void stepsAre(Checks c, String old, String now, int first, int second, int third) {
        mended(c, old, now, 10, first);
        mended(c, old, now, 11, second);
        mended(c, old, now, 12, third);
    }

    private static String allWords(char kind) {
        StringBuilder text = new StringBuilder("a(");
        for (int i = 1; i <= 23; i++) {
            text.append(kind).append(i);
        }
        return text.append(")").toString();
    }

    // ---- Terms

    @Sentence(promise = 21, inTerms = true, says = "MENDED: a RULE, an old PAGE and a new one: of all SENTENCES: "
        + "LIKENESS: how many unlike WORDS it leads to on the new PAGE that the RULE gives on the old one, "
        + "less how many unlike ones that it does not;")
    static void likeness(Checks c) {
        mended(c, "a(b1b2)", "a(c1c2)", 0, 2);
        mended(c, "a(b1)", "a(c1c2)", 0, 1);
        mended(c, "a(b1b2)", "a(c1)", 0, 1);
        mended(c, allWords('b'), allWords('e'), 0, 23);
        // d leads to 1 and 2 of the old ones, and to 7 beside: 2 less 1.
        mended(c, "a(b1b2)", "a(d1d7d2)", 0, 1);
        mended(c, "a(b1b2)", "a(d1d7d2)", 3, Checks.bits(1, 2, 3));
        // Unlike ones count once, on either side.
        mended(c, "a(b1b1)", "a(c1c1)", 0, 1);
        mended(c, "a(b1b2b3)", "a(c1c2c3c7c7)", 0, 2);
        // BOXES without a WORD count for nothing.
        mended(c, "a(b1b2)", "a(c1c2cc)", 0, 2);
        // What the old PAGE has, but the RULE does not give there, counts against it.
        mended(c, "a(b1c2)", "a(c1c2c2)", 0, 1);
        mended(c, "a(b1e2e3)", "a(d(c1c2c3)d(c1c2c3))", 0, 1);
    }

    @Sentence(promise = 21, inTerms = true, says = "the SENTENCE of greatest LIKENESS, of like ones the first.")
    static void greatestLikenessTheFirst(Checks c) {
        // c leads to 1 and 2 (ahead of *c), 0 to 1 alone.
        stepsAre(c, "a(b1b2)", "a(c1c2)", 2, -1, -1);
        stepsAre(c, "a(b1)", "a(c1)", 2, -1, -1);
        stepsAre(c, "a(b1)", "a(c1c2)", 5, -1, -1);
        stepsAre(c, "a(b2)", "a(c1c2)", 6, -1, -1);
        stepsAre(c, "a(b1b2)", "a(c1d(c2))", 11, -1, -1);
        stepsAre(c, "a(b1b2)", "a(c7d(c1c2))", 3, 2, -1);
        // All SENTENCES that lead to no WORD are alike: the first of all is a.
        stepsAre(c, "a(b1)", "a(c2)", 0, -1, -1);
    }

    @Sentence(promise = 21, inTerms = true, says = "SURE: whether all SENTENCES of that LIKENESS "
        + "lead to the same set of BOXES.")
    static void sure(Checks c) {
        mended(c, "a(b1b2)", "a(c1c2)", 2, 1);
        // To the first, to the second, or to both: the same WORD.
        mended(c, "a(b1)", "a(c1c1)", 2, 0);
        // c leads to the blank one as well, 1 does not.
        mended(c, "a(b1)", "a(cc1)", 2, 0);
        mended(c, "a(b1)", "a(dc1)", 2, 1);
        // None is like the old: all lead to nothing, or some to a blank BOX.
        mended(c, "a(b1)", "a(c2)", 2, 1);
        mended(c, "a(b1)", "a(c2d)", 2, 0);
        mended(c, "a(b1)", "a", 2, 1);
        // c leads to both and to one beside, 0 to one of them alone.
        mended(c, "a(b1b2)", "a(c1c2c3c3)", 2, 0);
    }

    // ---- promise 21

    @Sentence(promise = 21, says = "MENDED: what = 0 LIKENESS,")
    static void mendedLikeness(Checks c) {
        mended(c, "a(b1b2b3)", "a(c1c2c3)", 0, 3);
        mended(c, "a(b1)", "a(c2)", 0, 0);
        RowsDrawn x = changed("a(b1b2b3)", "a(c1c2)");
        Checks.rule(x, 2, "b");
        c.due("a CELL gives one WORD", x.mend(1, 0, 1, 0), 1);
        c.due("the other way", x.mend(0, 1, 0, 0), RowsDrawn.STATE);
    }

    @Sentence(promise = 21, says = "1 how many STEPS,")
    static void mendedLength(Checks c) {
        mended(c, "a(b1b2)", "a(c1c2)", 1, 1);
        mended(c, "a(b1b2)", "a(c7d(c1c2))", 1, 2);
        mended(c, "a(b1)", "a(b(c(d1)d2)c(c(d3)))", 1, 3);
        mended(c, "a(b1)", "a", 1, 1);
    }

    @Sentence(promise = 21, says = "2 SURE (1, 0),")
    static void mendedSure(Checks c) {
        mended(c, allWords('b'), allWords('e'), 2, 1);
        mended(c, "a(b1)", "a(cc1)", 2, 0);
    }

    @Sentence(promise = 21, says = "3 to which BOXES of the new PAGE it leads, as bits,")
    static void mendedBoxes(Checks c) {
        mended(c, allWords('b'), allWords('e'), 3, 0xFFFFFE);
        mended(c, "a(b1b2)", "a(c1c2)", 3, Checks.bits(1, 2));
        mended(c, "a(b1)", "a(b(c(d1)d2)c(c(d3)))", 3, Checks.bits(3));
        mended(c, "a(b1)", "a(cc1)", 3, Checks.bits(1, 2));
        mended(c, "a(b1)", "a(c2)", 3, 0);
        String last = "a(" + "c".repeat(22) + "d1)";
        mended(c, "a(b1)", last, 3, 1 << 23);
    }

    @Sentence(promise = 21, says = "10 and i its i-th STEP (NONE).")
    static void mendedSteps(Checks c) {
        stepsAre(c, "a(b1b2)", "a(c1c2)", 2, -1, -1);
        stepsAre(c, "a(b1b2)", "a(c7d(c1c2))", 3, 2, -1);
        stepsAre(c, "a(b1)", "a(b(c(d1)d2)c(c(d3)))", 1, 2, 3);
        stepsAre(c, "a(b6)", "a(c1c2c3c4c5c6)", 8, 14, 14);
    }

    @Sentence(promise = 21, says = "UNKNOWN: rule, old, now, or they are the same;")
    static void mendOfUnknown(Checks c) {
        RowsDrawn x = Checks.with("a(b1)", "a(b1)", "a(b1)");
        Checks.rule(x, 0, "b");
        c.refuses("mend(rule, 0, 1, 0)", 0, 0, rule -> x.mend(rule, 0, 1, 0), RowsDrawn.UNKNOWN);
        c.refuses("mend(0, old, 2, 0)", 0, 1, old -> x.mend(0, old, 2, 0), RowsDrawn.UNKNOWN);
        c.refuses("mend(0, old, 0, 0)", 1, 2, old -> x.mend(0, old, 0, 0), RowsDrawn.UNKNOWN);
        c.refuses("mend(0, 0, now, 0)", 1, 2, now -> x.mend(0, 0, now, 0), RowsDrawn.UNKNOWN);
        c.refuses("mend(0, 2, now, 0)", 0, 1, now -> x.mend(0, 2, now, 0), RowsDrawn.UNKNOWN);
        c.due("no third old", x.mend(0, 3, 1, 0), RowsDrawn.UNKNOWN);
        c.due("no third new", x.mend(0, 1, 3, 0), RowsDrawn.UNKNOWN);
        for (int page = 0; page < 3; page++) {
            c.due("the same", x.mend(0, page, page, 0), RowsDrawn.UNKNOWN);
        }
        c.due("unknown ahead of outside", x.mend(1, 0, 1, 4), RowsDrawn.UNKNOWN);
        c.due("the same ahead of outside", x.mend(0, 1, 1, -1), RowsDrawn.UNKNOWN);
        c.due("nothing at all", new RowsDrawn().mend(0, 0, 1, 0), RowsDrawn.UNKNOWN);
    }

    @Sentence(promise = 21, says = "OUTSIDE: what (10 to 12 else);")
    static void mendOfOther(Checks c) {
        RowsDrawn x = changed("a(b1)", "a(b1)");
        c.refuses("mend(0, 0, 1, what)", 0, 3, what -> x.mend(0, 0, 1, what), RowsDrawn.OUTSIDE);
        c.refuses("mend(0, 0, 1, what)", 10, 12, what -> x.mend(0, 0, 1, what), RowsDrawn.OUTSIDE);
        for (int what = 4; what < 10; what++) {
            c.due("mend(0, 0, 1, " + what + ")", x.mend(0, 0, 1, what), RowsDrawn.OUTSIDE);
        }
        RowsDrawn blank = changed("a(b)", "a(b1)");
        c.due("outside ahead of state", blank.mend(0, 0, 1, 4), RowsDrawn.OUTSIDE);
        c.due("outside ahead of state", blank.mend(0, 0, 1, 13), RowsDrawn.OUTSIDE);
    }

    @Sentence(promise = 21, says = "STATE: the RULE gives no WORD on the old one.")
    static void mendOfNoWord(Checks c) {
        for (int what : new int[] {0, 1, 2, 3, 10, 11, 12}) {
            mended(c, "a(b)", "a(b1)", what, RowsDrawn.STATE);
            mended(c, "a1(c1)", "a(b1)", what, RowsDrawn.STATE);
            mended(c, "a", "a(b1)", what, RowsDrawn.STATE);
        }
        mended(c, "a(bb0)", "a(b0)", 0, 1);
    }

    @Sentence(promise = 21, says = "(LIKENESS is -24 at least.)")
    static void likenessAtLeast(Checks c) {
        // Some SENTENCE leads to nothing on every PAGE, so the greatest LIKENESS is never below 0.
        mended(c, "a(b99)", allWords('c'), 0, 0);
        mended(c, "a(b99)", "a1", 0, 0);
        mended(c, "a(b99)", "a(a1(a2(a3(a4))))", 0, 0);
        stepsAre(c, "a(b99)", allWords('a'), 1, -1, -1);
    }
}
