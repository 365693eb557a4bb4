/** Sentences about LAWS, and of promises 18 to 20. */
final class LawSentences {
    private static final int MANY = 0, BETWEEN = 1, UNLIKE = 2, AS_BEFORE = 3;

    private LawSentences() {
    }

    /** Whether a LAW holds for the RULE b on the last of some PAGES. */
    private static void holds(Checks c, int want, int form, int x, int y, String... pages) {
        RowsDrawn d = Checks.with(pages);
        Checks.rule(d, 0, "b");
        d.law(form, x, y);
        c.due("law " + form + " with " + x + ", " + y + " on " + String.join(" ", pages),
            d.holds(0, 0, pages.length - 1), want);
    }

    private static String boxesOfB(int many) {
        return many == 0 ? "a(c)" : "a(c" + "b".repeat(many) + ")";
    }

    // ---- Terms

    @Sentence(promise = 18, inTerms = true, says = "LAWS (8 at most, numbered) of what a RULE GIVES on a PAGE: of a FORM:")
    static void eightLaws(Checks c) {
        RowsDrawn x = Checks.with("a(bb)");
        Checks.rule(x, 0, "b");
        Checks.rule(x, 2, "b");
        for (int i = 0; i < 8; i++) {
            c.due("law " + i, x.law(MANY, 0, i), i);
        }
        c.due("a ninth", x.law(MANY, 0, 8), RowsDrawn.FULL);
        for (int i = 0; i < 8; i++) {
            c.due("law " + i + " of two boxes", x.holds(i, 0, 0), i >= 2 ? 1 : 0);
            c.due("law " + i + " of a cell, that gives one", x.holds(i, 1, 0), i >= 1 ? 1 : 0);
        }
        c.due("law 8", x.holds(8, 0, 0), RowsDrawn.UNKNOWN);
    }

    @Sentence(promise = 19, inTerms = true, says = "0 MANY: from x to y BOXES;")
    static void manyFromXToY(Checks c) {
        for (int many : new int[] {0, 1, 2, 22}) {
            String page = boxesOfB(many);
            holds(c, 1, MANY, many, many, page);
            holds(c, 1, MANY, 0, 99, page);
            holds(c, 1, MANY, 0, many, page);
            holds(c, 1, MANY, many, 99, page);
            holds(c, 0, MANY, many + 1, 99, page);
            if (many > 0) {
                holds(c, 0, MANY, 0, many - 1, page);
            }
        }
    }

    @Sentence(promise = 19, inTerms = true, says = "1 BETWEEN: each WORD given is x to y "
        + "(BOXES without a WORD are not looked at);")
    static void wordsBetweenXAndY(Checks c) {
        String page = "a(b20b30b25)";
        holds(c, 1, BETWEEN, 20, 30, page);
        holds(c, 0, BETWEEN, 21, 30, page);
        holds(c, 0, BETWEEN, 20, 29, page);
        holds(c, 0, BETWEEN, 25, 25, page);
        holds(c, 1, BETWEEN, 0, 99, "a(b0b99)");
        holds(c, 0, BETWEEN, 1, 99, "a(b0b99)");
        holds(c, 0, BETWEEN, 0, 98, "a(b0b99)");
        holds(c, 1, BETWEEN, 0, 0, "a(b0)");
        holds(c, 1, BETWEEN, 99, 99, "a(b99)");
        holds(c, 1, BETWEEN, 20, 30, "a(bb20b(c5))");
        holds(c, 1, BETWEEN, 20, 30, "a(bb)");
        holds(c, 1, BETWEEN, 20, 30, "a5(c5)");
    }

    @Sentence(promise = 19, inTerms = true, says = "2 UNLIKE: no WORD is given twice;")
    static void wordsUnlike(Checks c) {
        holds(c, 1, UNLIKE, 0, 0, "a(b1b2b3)");
        holds(c, 0, UNLIKE, 0, 0, "a(b1b2b1)");
        holds(c, 0, UNLIKE, 0, 0, "a(b7b07)");
        holds(c, 0, UNLIKE, 0, 0, "a(b0b0)");
        holds(c, 0, UNLIKE, 0, 0, "a(" + "b5".repeat(23) + ")");
        holds(c, 1, UNLIKE, 0, 0, "a(bbb1)");
        holds(c, 1, UNLIKE, 0, 0, "a1(b1(b1)c1)");
        holds(c, 1, UNLIKE, 0, 0, "a(cc)");
        holds(c, 1, UNLIKE, 99, 0, "a(b1b2)");
    }

    @Sentence(promise = 19, inTerms = true, says = "3 AS BEFORE: of unlike WORDS that it gives on the PAGE ahead "
        + "(of number one less) x hundredths at least are given again")
    static void wordsAsBefore(Checks c) {
        holds(c, 1, AS_BEFORE, 50, 0, "a(b1b2)", "a(b2)");
        holds(c, 0, AS_BEFORE, 51, 0, "a(b1b2)", "a(b2)");
        holds(c, 1, AS_BEFORE, 33, 0, "a(b1b2b3)", "a(b2)");
        holds(c, 0, AS_BEFORE, 34, 0, "a(b1b2b3)", "a(b2)");
        holds(c, 1, AS_BEFORE, 66, 0, "a(b1b2b3)", "a(b3b2)");
        holds(c, 0, AS_BEFORE, 67, 0, "a(b1b2b3)", "a(b3b2)");
        holds(c, 1, AS_BEFORE, 99, 0, "a(b1b2)", "a(b2b9b1)");
        holds(c, 1, AS_BEFORE, 0, 0, "a(b1)", "a(b2)");
        holds(c, 1, AS_BEFORE, 0, 0, "a(b1)", "a(c)");
        holds(c, 0, AS_BEFORE, 1, 0, "a(b1)", "a(b2)");
        holds(c, 0, AS_BEFORE, 1, 0, "a(b1)", "a(c1)");
        // Unlike ones alone count, on the page ahead and on this one.
        holds(c, 1, AS_BEFORE, 50, 0, "a(b1b1b1b2)", "a(b2)");
        holds(c, 0, AS_BEFORE, 51, 0, "a(b1b1b1b2)", "a(b1b1)");
        // The page right ahead alone is looked at; the y is not.
        holds(c, 0, AS_BEFORE, 1, 0, "a(b1)", "a(b2)", "a(b1)");
        holds(c, 1, AS_BEFORE, 99, 0, "a(b2)", "a(b1)", "a(b1)");
        holds(c, 0, AS_BEFORE, 51, 99, "a(b1b2)", "a(b2)");
    }

    @Sentence(promise = 19, inTerms = true, says = "(none there, or no PAGE ahead: it holds).")
    static void nothingBefore(Checks c) {
        holds(c, 1, AS_BEFORE, 99, 0, "a(b1)");
        holds(c, 1, AS_BEFORE, 99, 0, "a(c)");
        holds(c, 1, AS_BEFORE, 99, 0, "a(c1)", "a(b1)");
        holds(c, 1, AS_BEFORE, 99, 0, "a(bb)", "a(b1)");
        holds(c, 1, AS_BEFORE, 99, 0, "a(bb)", "a(c)");
        holds(c, 0, AS_BEFORE, 99, 0, "a(bb1)", "a(b)");
    }

    @Sentence(promise = 20, inTerms = true, says = "BROKEN on a PAGE: 1 loudly: it gives nothing; "
        + "else LAWS that do not hold, as bits, times 2.")
    static void brokenLoudlyOrByLaws(Checks c) {
        RowsDrawn x = Checks.with("a(b1)", "a(c)");
        Checks.rule(x, 0, "b");
        c.due("nothing is given, no laws", x.broken(0, 1), 1);
        c.due("no laws", x.broken(0, 0), 0);
        int want = 0;
        for (int i = 0; i < 8; i++) {
            boolean kept = i % 3 == 1;
            x.law(MANY, kept ? 1 : 2, 9);
            want += kept ? 0 : 2 << i;
            c.due("with " + (i + 1) + " laws", x.broken(0, 0), want);
            c.due("loudly all the same", x.broken(0, 1), 1);
        }
        RowsDrawn zero = Checks.with("a(c)");
        Checks.rule(zero, 0, "b");
        zero.law(MANY, 0, 0);
        c.due("loudly though the law holds", zero.broken(0, 0), 1);
        c.due("the law holds", zero.holds(0, 0, 0), 1);
        RowsDrawn before = Checks.with("a(b1)", "a(b1)", "a(b2)", "a(b2)");
        Checks.rule(before, 0, "b");
        before.law(AS_BEFORE, 50, 0);
        int[] kept = {0, 0, 2, 0};
        for (int p = 0; p < 4; p++) {
            c.due("as before on page " + p, before.broken(0, p), kept[p]);
        }
    }

    // ---- promise 18

    @Sentence(promise = 18, says = "A LAW: its number.")
    static void numbersOfLaws(Checks c) {
        RowsDrawn x = new RowsDrawn();
        for (int i = 0; i < 8; i++) {
            c.due("law " + i, x.law(i % 4, 5, 50), i);
            c.due("laws then", x.count(2), i + 1);
        }
    }

    @Sentence(promise = 18, says = "OUTSIDE: form, x, y (0 to 99;")
    static void formsAndNumbersOutside(Checks c) {
        c.refuses("law(form, 1, 2)", 0, 3, form -> new RowsDrawn().law(form, 1, 2), RowsDrawn.OUTSIDE);
        for (int form = 0; form <= 3; form++) {
            int f = form;
            c.refuses("law(" + f + ", x, 99)", 0, 99, x -> new RowsDrawn().law(f, x, 99), RowsDrawn.OUTSIDE);
            c.refuses("law(" + f + ", 0, y)", 0, 99, y -> new RowsDrawn().law(f, 0, y), RowsDrawn.OUTSIDE);
        }
        RowsDrawn x = new RowsDrawn();
        x.law(4, 0, 0);
        x.law(0, -1, 0);
        x.law(0, 0, 100);
        c.due("laws then", x.count(2), 0);
    }

    @Sentence(promise = 18, says = "of MANY, BETWEEN y not below x);")
    static void yBelowX(Checks c) {
        for (int form = MANY; form <= BETWEEN; form++) {
            c.due("y one below x", new RowsDrawn().law(form, 1, 0), RowsDrawn.OUTSIDE);
            c.due("y one below x, at the top", new RowsDrawn().law(form, 99, 98), RowsDrawn.OUTSIDE);
            c.due("both 0", new RowsDrawn().law(form, 0, 0), 0);
            c.due("both 99", new RowsDrawn().law(form, 99, 99), 0);
        }
        for (int form = UNLIKE; form <= AS_BEFORE; form++) {
            c.due("y below x", new RowsDrawn().law(form, 99, 0), 0);
        }
    }

    @Sentence(promise = 18, says = "FULL.")
    static void ninthLaw(Checks c) {
        RowsDrawn x = new RowsDrawn();
        for (int i = 0; i < 8; i++) {
            c.due("law " + i, x.law(UNLIKE, 0, 0), i);
        }
        long before = x.digest();
        for (int form = 0; form <= 3; form++) {
            c.due("a ninth of form " + form, x.law(form, 0, 0), RowsDrawn.FULL);
        }
        c.due("nothing changed", x.digest(), before);
        c.due("a form outside ahead of full", x.law(4, 0, 0), RowsDrawn.OUTSIDE);
        c.due("an x outside ahead of full", x.law(2, 100, 0), RowsDrawn.OUTSIDE);
        c.due("y below x ahead of full", x.law(0, 1, 0), RowsDrawn.OUTSIDE);
    }

    // ---- promise 19

    @Sentence(promise = 19, says = "Whether a LAW holds for a RULE on a PAGE: 1, 0.")
    static void holdsOrNot(Checks c) {
        RowsDrawn x = Checks.with("a(bc)", "a(bbc)");
        Checks.rule(x, 0, "b");
        Checks.rule(x, 0, "c");
        x.law(MANY, 2, 2);
        x.law(MANY, 1, 1);
        c.due("b on page 0", x.holds(0, 0, 0), 0);
        c.due("b on page 1", x.holds(0, 0, 1), 1);
        c.due("c on page 1", x.holds(0, 1, 1), 0);
        c.due("the other law", x.holds(1, 1, 1), 1);
    }

    @Sentence(promise = 19, says = "UNKNOWN: law, rule, page.")
    static void holdsOfUnknown(Checks c) {
        c.due("nothing at all", new RowsDrawn().holds(0, 0, 0), RowsDrawn.UNKNOWN);
        RowsDrawn x = Checks.with("a(b)", "a(b)");
        Checks.rule(x, 0, "b");
        Checks.rule(x, 0, "b");
        Checks.rule(x, 0, "b");
        x.law(MANY, 0, 1);
        c.refuses("holds(law, 0, 0)", 0, 0, law -> x.holds(law, 0, 0), RowsDrawn.UNKNOWN);
        c.refuses("holds(0, rule, 0)", 0, 2, rule -> x.holds(0, rule, 0), RowsDrawn.UNKNOWN);
        c.refuses("holds(0, 0, page)", 0, 1, page -> x.holds(0, 0, page), RowsDrawn.UNKNOWN);
    }

    // ---- promise 20

    @Sentence(promise = 20, says = "BROKEN; 0: it is not.")
    static void notBroken(Checks c) {
        RowsDrawn x = Checks.with("a(b)", "a(bb)", "a(c)");
        Checks.rule(x, 0, "b");
        c.due("without laws", x.broken(0, 0), 0);
        for (int i = 0; i < 8; i++) {
            x.law(MANY, 1, 1);
        }
        c.due("all eight hold", x.broken(0, 0), 0);
        c.due("none of eight holds", x.broken(0, 1), 510);
        c.due("loudly", x.broken(0, 2), 1);
    }

    @Sentence(promise = 20, says = "UNKNOWN: rule, page.")
    static void brokenOfUnknown(Checks c) {
        c.due("nothing at all", new RowsDrawn().broken(0, 0), RowsDrawn.UNKNOWN);
        RowsDrawn x = Checks.with("a(b)", "a(b)");
        Checks.rule(x, 0, "b");
        c.refuses("broken(rule, 0)", 0, 0, rule -> x.broken(rule, 0), RowsDrawn.UNKNOWN);
        c.refuses("broken(0, page)", 0, 1, page -> x.broken(0, page), RowsDrawn.UNKNOWN);
    }
}
