/** Sentences about MARKS and SENTENCES, and of promises 12 to 17. */
final class MarkSentences {
    private static final int ALL = 15 + 15 * 15 + 15 * 15 * 15;

    private MarkSentences() {
    }

    /** A PAGE with these BOXES as YES, and WHOLE. */
    private static RowsDrawn wholeWith(String page, int... yes) {
        RowsDrawn x = Checks.with(page);
        Checks.markAll(x, 0, 1, yes);
        x.whole(0, true);
        return x;
    }

    /** PAGE 0 lets the SENTENCES b, 0 and *b FIT, and no other one; the others have no mark. */
    private static RowsDrawn threeFit(String... others) {
        return behindMarked("a(b)", 1, others);
    }

    /** PAGE 0 lets c, 1, *c, b/>, 0/> and *b/> FIT, and no other one; the others have no mark. */
    private static RowsDrawn sixFit(String... others) {
        return behindMarked("a(bc)", 2, others);
    }

    private static RowsDrawn behindMarked(String page, int yes, String... others) {
        RowsDrawn x = Checks.with(page);
        x.mark(0, yes, 1);
        for (String other : others) {
            Checks.page(x, other);
        }
        return x;
    }

    /** PAGE 0 lets the SENTENCE b FIT, and no other one; the others have no mark. */
    private static RowsDrawn onlyB(String... others) {
        RowsDrawn x = wholeWith("a(bbc(b))", 1, 2);
        for (String other : others) {
            Checks.page(x, other);
        }
        return x;
    }

    private static void stepsAre(Checks c, String why, RowsDrawn x, int which, int first, int second, int third) {
        c.due("step(" + which + ", 0), " + why, x.step(which, 0), first);
        c.due("step(" + which + ", 1), " + why, x.step(which, 1), second);
        c.due("step(" + which + ", 2), " + why, x.step(which, 2), third);
    }

    // ---- Terms

    @Sentence(promise = 12, inTerms = true, says = "MARKS: each BOX of a PAGE is YES, NO, or neither (at first);")
    static void neitherAtFirst(Checks c) {
        RowsDrawn x = Checks.with("a(" + "b".repeat(23) + ")", "a");
        c.due("YES at first", x.count(4), 0);
        c.due("NO at first", x.count(5), 0);
        for (int b = 0; b < 24; b++) {
            c.due("box " + b + " was", x.mark(0, b, 0), 0);
        }
        c.due("all SENTENCES FIT at first", x.fits(0), ALL);
    }

    @Sentence(promise = 13, inTerms = true, says = "a PAGE is WHOLE, or not (at first).")
    static void notWholeAtFirst(Checks c) {
        RowsDrawn x = Checks.with("a(b)", "a(b)", "a", "a", "a", "a", "a", "a");
        for (int p = 0; p < 8; p++) {
            c.due("page " + p + " was", x.whole(p, false), 0);
        }
    }

    @Sentence(promise = 15, inTerms = true, says = "STEPS of THE TONGUE, numbered: 0 to 4 the letters a to e, "
        + "5 to 8 the digits 0 to 3, 9 to 13 \"*\" and a to e, 14 \">\".")
    static void stepsByNumber(Checks c) {
        for (int kind = 0; kind < 5; kind++) {
            char letter = (char) ('a' + kind);
            char other = (char) ('a' + (kind + 1) % 5);
            stepsAre(c, "the letter " + letter, wholeWith("e(" + letter + ")", 1), 0, kind, -1, -1);
            String both = "e(" + letter + other + "(" + letter + "))";
            stepsAre(c, "*" + letter, wholeWith(both, 1, 3), 0, 9 + kind, -1, -1);
        }
        for (int digit = 0; digit < 4; digit++) {
            stepsAre(c, "the digit " + digit, wholeWith("a(bbbbb)", digit + 1), 0, 5 + digit, -1, -1);
        }
        // The digit 4 is none of THE TONGUE: the fifth is behind the fourth, the sixth behind that.
        stepsAre(c, "the fifth", wholeWith("a(bbbbb)", 5), 0, 8, 14, -1);
        stepsAre(c, "the sixth", wholeWith("a(bbbbbb)", 6), 0, 8, 14, 14);
        c.due("none leads to the seventh alone", wholeWith("a(bbbbbbb)", 7).fits(0), 0);
    }

    @Sentence(promise = 14, inTerms = true, says = "SENTENCES: all rows of one to three STEPS of THE TONGUE;")
    static void oneToThreeSteps(Checks c) {
        c.due("all of them FIT", Checks.with("a").fits(0), ALL);
        c.due("of one step", wholeWith("b(a)", 1).fits(1), 1);
        c.due("of two steps", wholeWith("b(a(a))", 2).fits(1), 2);
        c.due("of three steps", wholeWith("b(a(a(a)))", 3).fits(1), 3);
        c.due("none of four", wholeWith("b(a(a(a(a))))", 4).fits(0), 0);
        c.due("and no least", wholeWith("b(a(a(a(a))))", 4).fits(1), RowsDrawn.NONE);
    }

    @Sentence(promise = 15, inTerms = true, says = "ordered: fewer STEPS first, then by their numbers.")
    static void orderOfSentences(Checks c) {
        RowsDrawn fewer = Checks.with("a(b(c))");
        fewer.mark(0, 2, 1);
        stepsAre(c, "*c is ahead of b/c", fewer, 0, 11, -1, -1);
        RowsDrawn numbers = Checks.with("a(b)");
        numbers.mark(0, 1, 1);
        stepsAre(c, "b is ahead of 0 and *b", numbers, 0, 1, -1, -1);
        stepsAre(c, "b/c is ahead of b/0 and 0/c", wholeWith("a(b(c)d(c))", 2), 0, 1, 2, -1);
        stepsAre(c, "b/0 is ahead of 0/0", wholeWith("a(b(cc)c)", 2), 0, 1, 5, -1);
        stepsAre(c, "the first of three", wholeWith("b(a(a(a)))", 3), 0, 0, 0, 0);
        stepsAre(c, "the first of two", wholeWith("b(a(a))", 2), 0, 0, 0, -1);
        stepsAre(c, "the very first", Checks.with("e"), 0, 0, -1, -1);
    }

    @Sentence(promise = 14, inTerms = true, says = "One FITS, if on each PAGE it leads (from the ROOT) "
        + "to all YES and no NO,")
    static void allYesAndNoNo(Checks c) {
        RowsDrawn x = Checks.with("a(bcb)", "a(cb)");
        x.mark(0, 1, 1);
        c.due("to one YES: b, 0, *b", x.fits(0), 3);
        x.mark(0, 3, 1);
        c.due("to both YES: b, *b", x.fits(0), 2);
        x.mark(0, 3, 2);
        c.due("to the one, not to the other: 0", x.fits(0), 1);
        x.mark(1, 1, 2);
        c.due("0 leads to a NO of the other page", x.fits(0), 0);
        x.mark(1, 1, 1);
        c.due("to the YES of both pages", x.fits(0), 1);
        x.mark(1, 2, 1);
        c.due("not to all YES of the other page", x.fits(0), 0);
        RowsDrawn onlyNo = Checks.with("a(b)");
        onlyNo.mark(0, 1, 2);
        c.due("those that lead to nothing have no NO", onlyNo.fits(0), ALL - 3);
        RowsDrawn root = Checks.with("a(b)");
        root.mark(0, 0, 2);
        c.due("none leads to the root", root.fits(0), ALL);
        root.mark(0, 0, 1);
        c.due("so none FITS, if it is YES", root.fits(0), 0);
    }

    @Sentence(promise = 14, inTerms = true, says = "and on a WHOLE one to no other ones.")
    static void noOthersOnAWholePage(Checks c) {
        RowsDrawn x = Checks.with("a(bcb)");
        x.mark(0, 1, 1);
        c.due("not WHOLE: b, 0, *b", x.fits(0), 3);
        x.whole(0, true);
        c.due("WHOLE: 0", x.fits(0), 1);
        x.mark(0, 1, 0);
        c.due("WHOLE without a YES: those that lead to nothing", x.fits(0), ALL - toSome("a(bcb)"));
        x.whole(0, false);
        c.due("not WHOLE any more", x.fits(0), ALL);
        x.whole(0, true);
        x.mark(0, 1, 1);
        x.mark(0, 3, 1);
        c.due("WHOLE with both: b, *b", x.fits(0), 2);
        x.mark(0, 0, 2);
        c.due("and a NO beside them", x.fits(0), 2);
    }

    /** How many SENTENCES lead to some BOX: told by RULES of the same STEPS. */
    private static int toSome(String page) {
        String[] steps = {"a", "b", "c", "d", "e", "0", "1", "2", "3", "*a", "*b", "*c", "*d", "*e", ">"};
        int many = 0;
        for (String first : steps) {
            many += leadsToSome(page, first);
            for (String second : steps) {
                many += leadsToSome(page, first + "/" + second);
                for (String third : steps) {
                    many += leadsToSome(page, first + "/" + second + "/" + third);
                }
            }
        }
        return many;
    }

    private static int leadsToSome(String page, String rule) {
        RowsDrawn x = Checks.with(page);
        Checks.rule(x, 0, rule);
        return x.gives(0, 0) == 0 ? 0 : 1;
    }

    @Sentence(promise = 15, inTerms = true, says = "THE LEAST: the first SENTENCE that FITS.")
    static void theLeast(Checks c) {
        RowsDrawn x = threeFit("a(cb)");
        stepsAre(c, "of b, 0, *b", x, 0, 1, -1, -1);
        x.mark(1, 1, 1);
        stepsAre(c, "of 0", x, 0, 5, -1, -1);
        x.mark(1, 1, 2);
        stepsAre(c, "of b, *b", x, 0, 1, -1, -1);
        Checks.page(x, "a(c(b))");
        x.mark(2, 2, 1);
        stepsAre(c, "of *b", x, 0, 10, -1, -1);
    }

    @Sentence(promise = 14, inTerms = true, says = "EVEN of a SENTENCE: of all PAGES without any YES or NO, "
        + "that are not WHOLE, to which it leads to some BOX: by how many BOXES it leads to: "
        + "the most PAGES with the same number.")
    static void evenOfASentence(Checks c) {
        c.due("no other page", onlyB().fits(3), 0);
        c.due("one", onlyB("a(b)").fits(3), 1);
        c.due("to one box twice, to two once", onlyB("a(b)", "a(bb)", "a(b)").fits(3), 2);
        c.due("to two boxes three times", onlyB("a(b)", "a(bb)", "a(b)", "a(bb)", "a(bb)").fits(3), 3);
        c.due("each to another number", onlyB("a(b)", "a(bb)", "a(bbb)").fits(3), 1);
        c.due("pages to which it leads to nothing", onlyB("a(c)", "a(c)", "a").fits(3), 0);
        c.due("seven pages", onlyB("a(b)", "a(b)", "a(b)", "a(b)", "a(b)", "a(b)", "a(b)").fits(3), 7);
        String full = "a(" + "b".repeat(23) + ")";
        c.due("23 boxes", onlyB(full, full).fits(3), 2);
        RowsDrawn x = onlyB("a(b)", "a(b)", "a(b)");
        x.mark(1, 1, 1);
        c.due("a page with a YES", x.fits(3), 2);
        x.mark(2, 0, 2);
        c.due("a page with a NO", x.fits(3), 1);
        x.mark(1, 1, 0);
        x.mark(2, 0, 0);
        c.due("both without again", x.fits(3), 3);
        x.mark(1, 1, 1);
        x.whole(1, true);
        c.due("a WHOLE page", x.fits(3), 2);
        Checks.page(x, "a(b)");
        c.due("a page that came since", x.fits(3), 3);
    }

    @Sentence(promise = 15, inTerms = true, says = "THE LIKELIEST: of all that FIT the one of greatest EVEN, "
        + "of like ones the first.")
    static void theLikeliest(Checks c) {
        stepsAre(c, "all EVEN 0", threeFit(), 1, 1, -1, -1);
        stepsAre(c, "all EVEN 1", threeFit("a(b)"), 1, 1, -1, -1);
        stepsAre(c, "0 has 1", threeFit("a(c)"), 1, 5, -1, -1);
        stepsAre(c, "*b has 2, 0 has 2: 0 is first", threeFit("a(c(b))", "a(c(b))"), 1, 5, -1, -1);
        stepsAre(c, "b has 1, 0 has 2", threeFit("a(b)", "a(bb)"), 1, 5, -1, -1);
        stepsAre(c, "*b/> has 1 alone", sixFit("a(e(bd))"), 1, 10, 14, -1);
        // Of all that FIT alone: *a has the greatest EVEN of all SENTENCES here.
        stepsAre(c, "not one that does not FIT", threeFit("a(cab)", "a(ca)", "a(ca)"), 1, 5, -1, -1);
    }

    @Sentence(promise = 17, inTerms = true, says = "ASKED: of all BOXES that are neither, of PAGES not WHOLE: "
        + "of the SENTENCES that FIT some lead to it, others not: the one for which the greater of both numbers is least")
    static void theGreaterIsLeast(Checks c) {
        // On page 1 one of six leads to box 2, two to box 3, four to box 4.
        RowsDrawn x = sixFit("a(d(c)bc)");
        asked(c, "2 and 4 are better than 1 and 5", x, 1, 3, 4);
        x.mark(1, 3, 2);
        asked(c, "four are left, one leads to box 2", x, 1, 2, 3);
        x.mark(1, 2, 2);
        asked(c, "three are left, alike everywhere", x, -1, -1, -1);
        RowsDrawn fresh = Checks.with("a(b)");
        asked(c, "three of all lead to box 1", fresh, 0, 1, ALL - 3);
        fresh.whole(0, true);
        asked(c, "WHOLE", fresh, -1, -1, -1);
    }

    private static void asked(Checks c, String why, RowsDrawn x, int page, int box, int greater) {
        c.due("ask(0), " + why, x.ask(0), page);
        c.due("ask(1), " + why, x.ask(1), box);
        c.due("ask(2), " + why, x.ask(2), greater);
    }

    @Sentence(promise = 17, inTerms = true, says = "(of like ones the least PAGE, then BOX);")
    static void theLeastPageThenBox(Checks c) {
        asked(c, "boxes 1 and 2 are alike", threeFit("a(cb)"), 1, 1, 2);
        asked(c, "pages 1 and 2 are alike", threeFit("a(cb)", "a(cb)"), 1, 1, 2);
        // On page 2 box 1 is as good as box 3 on page 1.
        asked(c, "the page is looked at first", sixFit("a(d(c)bc)", "a(ce)"), 1, 3, 4);
        asked(c, "the other way round", sixFit("a(ce)", "a(d(c)bc)"), 1, 1, 4);
        asked(c, "a later page is better", sixFit("a(e(c))", "a(ce)"), 2, 1, 4);
    }

    @Sentence(promise = 17, inTerms = true, says = "none, if for none both are above 0.")
    static void noneToAsk(Checks c) {
        asked(c, "no page", new RowsDrawn(), -1, -1, -1);
        asked(c, "all lead to the same, on page 0 and 1", threeFit("a(b)"), -1, -1, -1);
        asked(c, "none leads to the root", Checks.with("a"), -1, -1, -1);
        asked(c, "one FITS", onlyB("a(bc)"), -1, -1, -1);
        RowsDrawn none = threeFit("a(cb)");
        none.mark(0, 0, 1);
        asked(c, "none FITS", none, -1, -1, -1);
        // All six lead to box 2, two to box 3: box 2 parts nothing.
        asked(c, "a box to which all lead", sixFit("a(bcc)"), 1, 3, 4);
    }

    // ---- promise 12

    @Sentence(promise = 12, says = "A BOX becomes YES (1), NO (2), or neither (0): what it was.")
    static void whatAMarkWas(Checks c) {
        RowsDrawn x = Checks.with("a(" + "b".repeat(23) + ")");
        for (int box : new int[] {0, 1, 23}) {
            for (int was = 0; was <= 2; was++) {
                for (int as = 0; as <= 2; as++) {
                    x.mark(0, box, was);
                    c.due("mark(0, " + box + ", " + as + ")", x.mark(0, box, as), was);
                    c.due("YES then", x.count(4), as == 1 ? 1 : 0);
                    c.due("NO then", x.count(5), as == 2 ? 1 : 0);
                }
            }
            x.mark(0, box, 0);
        }
    }

    @Sentence(promise = 12, says = "UNKNOWN;")
    static void markOfUnknown(Checks c) {
        RowsDrawn x = Checks.with("a(b)", "a(bbb)");
        c.refuses("mark(page, 0, 1)", 0, 1, p -> x.mark(p, 0, 1), RowsDrawn.UNKNOWN);
        c.refuses("mark(0, box, 1)", 0, 1, b -> x.mark(0, b, 1), RowsDrawn.UNKNOWN);
        c.refuses("mark(1, box, 1)", 0, 3, b -> x.mark(1, b, 1), RowsDrawn.UNKNOWN);
        c.due("the known ones alone are YES", x.count(4), 6);
        c.due("no page at all", new RowsDrawn().mark(0, 0, 1), RowsDrawn.UNKNOWN);
        c.due("an unknown page ahead of outside", x.mark(2, 0, 3), RowsDrawn.UNKNOWN);
        c.due("an unknown box ahead of outside", x.mark(0, 2, -1), RowsDrawn.UNKNOWN);
    }

    @Sentence(promise = 12, says = "OUTSIDE.")
    static void markAsNothing(Checks c) {
        RowsDrawn x = Checks.with("a(b)");
        c.refuses("mark(0, 1, as)", 0, 2, as -> x.mark(0, 1, as), RowsDrawn.OUTSIDE);
        c.due("it is as the last good one told", x.mark(0, 1, 1), 2);
        c.due("outside", x.mark(0, 1, 3), RowsDrawn.OUTSIDE);
        c.due("it stays YES", x.mark(0, 1, 0), 1);
    }

    // ---- promise 13

    @Sentence(promise = 13, says = "A PAGE is WHOLE, or not: 1 if it was, else 0.")
    static void whatWholeWas(Checks c) {
        RowsDrawn x = Checks.with("a", "a", "a", "a", "a", "a", "a", "a");
        for (int p : new int[] {0, 7}) {
            c.due("at first", x.whole(p, true), 0);
            c.due("it was", x.whole(p, true), 1);
            c.due("it was still", x.whole(p, false), 1);
            c.due("it was not", x.whole(p, false), 0);
            x.whole(p, true);
        }
        c.due("others are not", x.whole(3, false), 0);
    }

    @Sentence(promise = 13, says = "UNKNOWN.")
    static void wholeOfUnknown(Checks c) {
        c.due("no page at all", new RowsDrawn().whole(0, true), RowsDrawn.UNKNOWN);
        RowsDrawn x = Checks.with("a", "a");
        c.refuses("whole(page, true)", 0, 1, p -> x.whole(p, true), RowsDrawn.UNKNOWN);
        c.refuses("whole(page, false)", 0, 1, p -> x.whole(p, false), RowsDrawn.UNKNOWN);
    }

    // ---- promise 14

    @Sentence(promise = 14, says = "How many SENTENCES FIT (what = 0),")
    static void howManyFit(Checks c) {
        c.due("all", Checks.with("a").fits(0), 3615);
        c.due("six", sixFit().fits(0), 6);
        c.due("three", threeFit().fits(0), 3);
        c.due("one", onlyB().fits(0), 1);
        RowsDrawn none = Checks.with("a");
        none.mark(0, 0, 1);
        c.due("none", none.fits(0), 0);
        Checks.page(none, "a");
        c.due("none with a page more", none.fits(0), 0);
        none.mark(0, 0, 0);
        c.due("all again", none.fits(0), 3615);
    }

    @Sentence(promise = 14, says = "of how many STEPS THE LEAST is (1),")
    static void stepsOfTheLeast(Checks c) {
        c.due("one", sixFit("a(e(bd))").fits(1), 1);
        c.due("two", wholeWith("a(b(c)d(c))", 2).fits(1), 2);
        c.due("three", wholeWith("b(a(a(a)))", 3).fits(1), 3);
    }

    @Sentence(promise = 14, says = "THE LIKELIEST (2),")
    static void stepsOfTheLikeliest(Checks c) {
        c.due("one", threeFit("a(c)").fits(2), 1);
        c.due("two, though the least has one", sixFit("a(e(bd))").fits(2), 2);
        c.due("three", wholeWith("b(a(a(a)))", 3).fits(2), 3);
    }

    @Sentence(promise = 14, says = "EVEN of THE LIKELIEST (3);")
    static void evenOfTheLikeliest(Checks c) {
        c.due("0", threeFit().fits(3), 0);
        c.due("1", sixFit("a(e(bd))").fits(3), 1);
        c.due("2 of 0, not 1 of b", threeFit("a(b)", "a(c)").fits(3), 2);
        RowsDrawn unmarked = Checks.with("a(b)", "a(b)", "a(b)", "a(b)", "a(b)", "a(b)", "a(b)", "a(b)");
        c.due("8", unmarked.fits(3), 8);
    }

    @Sentence(promise = 14, says = "NONE: none FITS (1 to 3).")
    static void noneFits(Checks c) {
        RowsDrawn x = threeFit("a(b)");
        x.mark(0, 0, 1);
        c.due("fits(0)", x.fits(0), 0);
        for (int what = 1; what <= 3; what++) {
            c.due("fits(" + what + ")", x.fits(what), RowsDrawn.NONE);
        }
        x.mark(0, 0, 0);
        for (int what = 1; what <= 3; what++) {
            c.due("fits(" + what + ") then", x.fits(what), 1);
        }
    }

    @Sentence(promise = 14, says = "OUTSIDE;")
    static void fitsOfOther(Checks c) {
        RowsDrawn x = threeFit();
        c.refuses("fits(what)", 0, 3, x::fits, RowsDrawn.OUTSIDE);
        c.refuses("fits(what) without a page", 0, 3, new RowsDrawn()::fits, RowsDrawn.OUTSIDE);
    }

    @Sentence(promise = 14, says = "STATE: there is no PAGE.")
    static void fitsWithoutAPage(Checks c) {
        RowsDrawn x = new RowsDrawn();
        Checks.rule(x, 0, "a");
        Checks.write(x, "a");
        for (int what = 0; what <= 3; what++) {
            c.due("fits(" + what + ")", x.fits(what), RowsDrawn.STATE);
        }
        x.page();
        c.due("with a page", x.fits(0), ALL);
    }

    // ---- promise 15

    @Sentence(promise = 15, says = "The i-th STEP (0 to 2) of THE LEAST (which = 0), THE LIKELIEST (1), by its number;")
    static void stepsOfBoth(Checks c) {
        stepsAre(c, "the least has one", sixFit("a(e(bd))"), 0, 2, -1, -1);
        stepsAre(c, "the likeliest has two", sixFit("a(e(bd))"), 1, 10, 14, -1);
        stepsAre(c, "the least of three: 3/>/>", wholeWith("a(bbbbbb)", 6), 0, 8, 14, 14);
        stepsAre(c, "the likeliest of three: 3/>/>", wholeWith("a(bbbbbb)", 6), 1, 8, 14, 14);
        RowsDrawn x = wholeWith("a(b(c(d1)d2)c(c(d3)))", 3);
        stepsAre(c, "b/c/d", x, 0, 1, 2, 3);
    }

    @Sentence(promise = 15, says = "NONE.")
    static void noSuchStep(Checks c) {
        RowsDrawn x = threeFit();
        for (int which = 0; which <= 1; which++) {
            c.due("no second of one", x.step(which, 1), RowsDrawn.NONE);
            c.due("no third of one", x.step(which, 2), RowsDrawn.NONE);
        }
        c.due("no third of two", wholeWith("a(bbbbb)", 5).step(0, 2), RowsDrawn.NONE);
        x.mark(0, 0, 1);
        for (int which = 0; which <= 1; which++) {
            for (int i = 0; i <= 2; i++) {
                c.due("none FITS: step(" + which + ", " + i + ")", x.step(which, i), RowsDrawn.NONE);
            }
        }
    }

    @Sentence(promise = 15, says = "OUTSIDE;")
    static void stepsOutside(Checks c) {
        for (RowsDrawn x : new RowsDrawn[] {threeFit(), new RowsDrawn()}) {
            c.refuses("step(which, 0)", 0, 1, which -> x.step(which, 0), RowsDrawn.OUTSIDE);
            c.refuses("step(0, i)", 0, 2, i -> x.step(0, i), RowsDrawn.OUTSIDE);
            c.refuses("step(1, i)", 0, 2, i -> x.step(1, i), RowsDrawn.OUTSIDE);
        }
    }

    @Sentence(promise = 15, says = "STATE: there is no PAGE.")
    static void stepsWithoutAPage(Checks c) {
        RowsDrawn x = new RowsDrawn();
        for (int which = 0; which <= 1; which++) {
            for (int i = 0; i <= 2; i++) {
                c.due("step(" + which + ", " + i + ")", x.step(which, i), RowsDrawn.STATE);
            }
        }
        Checks.page(x, "a");
        c.due("with a page", x.step(0, 0), 0);
    }

    // ---- promise 16

    @Sentence(promise = 16, says = "How many of the SENTENCES that FIT lead to a BOX.")
    static void howManyLead(Checks c) {
        RowsDrawn x = sixFit("a(d(c)bc)");
        int[] want = {0, 0, 1, 2, 4};
        for (int b = 0; b < want.length; b++) {
            c.due("leads(1, " + b + ")", x.leads(1, b), want[b]);
        }
        c.due("to the YES all", x.leads(0, 2), 6);
        c.due("to the root none", x.leads(0, 0), 0);
        Checks.page(x, "a(c)");
        c.due("a page that came since", x.leads(2, 1), 2);
        x.mark(0, 0, 1);
        c.due("none FITS", x.leads(0, 2), 0);
        RowsDrawn fresh = Checks.with("a(b)");
        c.due("of all three", fresh.leads(0, 1), 3);
        RowsDrawn eight = Checks.with("a", "a", "a", "a", "a", "a", "a", "a(" + "b".repeat(22) + "c)");
        // c, *c, b/>, *b/>, b/>/>, *b/>/>.
        c.due("the last box of the last page", eight.leads(7, 23), 6);
    }

    @Sentence(promise = 16, says = "UNKNOWN.")
    static void leadsToUnknown(Checks c) {
        RowsDrawn x = Checks.with("a(b)", "a(bcd)");
        c.refuses("leads(page, 0)", 0, 1, p -> x.leads(p, 0), RowsDrawn.UNKNOWN);
        c.refuses("leads(0, box)", 0, 1, b -> x.leads(0, b), RowsDrawn.UNKNOWN);
        c.refuses("leads(1, box)", 0, 3, b -> x.leads(1, b), RowsDrawn.UNKNOWN);
        c.due("no page at all", new RowsDrawn().leads(0, 0), RowsDrawn.UNKNOWN);
    }

    // ---- promise 17

    @Sentence(promise = 17, says = "ASKED: what = 0 the PAGE, 1 the BOX, 2 the greater number;")
    static void whatIsAsked(Checks c) {
        asked(c, "page 1, box 3", sixFit("a(d(c)bc)"), 1, 3, 4);
        asked(c, "a page ahead that parts nothing", sixFit("a", "a(d(c)bc)"), 2, 3, 4);
        // *b leads to the last box of the last page, b and 0 do not.
        String last = "a(b(" + "a".repeat(21) + "b))";
        asked(c, "page 7, box 23", threeFit("a", "a", "a", "a", "a", "a", last), 7, 23, 2);
        RowsDrawn x = threeFit("a(b)");
        asked(c, "nothing so far", x, -1, -1, -1);
        Checks.page(x, "a(cb)");
        asked(c, "a page that came since", x, 2, 1, 2);
    }

    @Sentence(promise = 17, says = "NONE: there is none.")
    static void nothingIsAsked(Checks c) {
        asked(c, "no page", new RowsDrawn(), -1, -1, -1);
        asked(c, "one FITS", onlyB("a(b(b))"), -1, -1, -1);
        RowsDrawn none = sixFit("a(d(c)bc)");
        none.mark(0, 0, 1);
        asked(c, "none FITS", none, -1, -1, -1);
    }

    @Sentence(promise = 17, says = "OUTSIDE.")
    static void askedOther(Checks c) {
        c.refuses("ask(what)", 0, 2, sixFit("a(d(c)bc)")::ask, RowsDrawn.OUTSIDE);
        c.refuses("ask(what) without a page", 0, 2, new RowsDrawn()::ask, RowsDrawn.OUTSIDE);
    }
}
