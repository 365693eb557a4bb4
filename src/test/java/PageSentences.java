/** Sentences about PAGES as texts, and of promises 5 and 8: reading one, and asking about its BOXES. */
final class PageSentences {
    /** A PAGE that fills THE SHEET: 24 BOXES, each with a WORD of two digits, nine of them around others. */
    static final String NINETY = "a10(b11(c12(d13(e14(a15(b16(c17(d18(" + "e99".repeat(15) + ")".repeat(9);

    private PageSentences() {
    }

    private static void isPage(Checks c, String text) {
        c.due("page() of '" + text + "'", Checks.page(new RowsDrawn(), text), 0);
    }

    private static void isNone(Checks c, String text) {
        RowsDrawn x = new RowsDrawn();
        c.due("page() of '" + text + "'", Checks.page(x, text), RowsDrawn.STATE);
        c.due("pages then", x.count(0), 0);
    }

    // ---- Terms

    @Sentence(promise = 5, inTerms = true, says = "PAGES (8 at most, numbered) are texts:")
    static void eightPages(Checks c) {
        RowsDrawn x = new RowsDrawn();
        for (int p = 0; p < 8; p++) {
            c.due("page " + p, Checks.page(x, "a" + (20 + p)), p);
        }
        c.due("a ninth", Checks.page(x, "a28"), RowsDrawn.FULL);
        for (int p = 0; p < 8; p++) {
            c.due("word of page " + p, x.box(p, 0, 1), 20 + p);
        }
        c.due("word of page 8", x.box(8, 0, 1), RowsDrawn.UNKNOWN);
    }

    @Sentence(promise = 5, inTerms = true, says = "a BOX: a KIND (a letter a to e),")
    static void kindsAreAToE(Checks c) {
        for (int code = 1; code <= 126; code++) {
            RowsDrawn x = new RowsDrawn();
            boolean isKind = code >= 'a' && code <= 'e';
            c.due("page() of code " + code, Checks.page(x, String.valueOf((char) code)), isKind ? 0 : RowsDrawn.STATE);
            c.due("its kind", x.box(0, 0, 0), isKind ? code - 'a' : RowsDrawn.UNKNOWN);
        }
        isNone(c, "");
        isNone(c, "12");
        isNone(c, "(a)");
        isNone(c, "a(12)");
    }

    @Sentence(promise = 5, inTerms = true, says = "perhaps a WORD (one or two digits:")
    static void noneOneOrTwoDigits(Checks c) {
        RowsDrawn x = Checks.with("a(bc3d45(e))");
        int[] words = {-1, -1, 3, 45, -1};
        for (int b = 0; b < words.length; b++) {
            c.due("word of box " + b, x.box(0, b, 1), words[b]);
        }
        isNone(c, "a123");
        isNone(c, "a000");
        isNone(c, "a(b123)");
        isNone(c, "a/");
        isNone(c, "a:");
        isNone(c, "a(b)1");
    }

    @Sentence(promise = 8, inTerms = true, says = "0 to 99),")
    static void words0To99(Checks c) {
        for (int word = 0; word <= 99; word++) {
            c.due("word " + word, Checks.with("e" + word).box(0, 0, 1), word);
        }
        for (int digit = 0; digit <= 9; digit++) {
            c.due("word 0" + digit, Checks.with("e0" + digit).box(0, 0, 1), digit);
        }
    }

    @Sentence(promise = 5, inTerms = true, says = "and perhaps \"(\", BOXES one behind the other (one at least), \")\".")
    static void oneBoxWithinAtLeast(Checks c) {
        isPage(c, "a(b)");
        isPage(c, "a1(b)");
        isPage(c, "a12(b(c)d)");
        isNone(c, "a()");
        isNone(c, "a(b())");
        isNone(c, "a(");
        isNone(c, "a(b");
        isNone(c, "a(b))");
        isNone(c, "a)");
        isNone(c, "a((b))");
        isNone(c, "a(b)(c)");
        isNone(c, "a(b)c");
        isNone(c, "ab");
        c.due("23 within", Checks.with("a(" + "b".repeat(23) + ")").box(0, 0, 3), 23);
    }

    @Sentence(promise = 5, inTerms = true, says = "BOXES of a PAGE (24 at most)")
    static void boxes24(Checks c) {
        isPage(c, "a(" + "b".repeat(23) + ")");
        isNone(c, "a(" + "b".repeat(24) + ")");
        isPage(c, "a(".repeat(23) + "a" + ")".repeat(23));
        isNone(c, "a(".repeat(24) + "a" + ")".repeat(24));
        isPage(c, "a(" + "b".repeat(21) + "b(b))");
        isNone(c, "a(" + "b".repeat(21) + "b(bb))");
        isNone(c, "a(" + "b".repeat(22) + "b(b))");
        RowsDrawn x = Checks.with("a(" + "b".repeat(23) + ")");
        c.due("box 23", x.box(0, 23, 0), 1);
        c.due("box 24", x.box(0, 24, 0), RowsDrawn.UNKNOWN);
    }

    @Sentence(promise = 8, inTerms = true, says = "are numbered as they stand in the text;")
    static void numberedAsTheyStand(Checks c) {
        RowsDrawn x = Checks.with("e0(d1(c2b3(a4))c5(b6)e7)");
        for (int b = 0; b < 8; b++) {
            c.due("word of box " + b, x.box(0, b, 1), b);
        }
        RowsDrawn y = Checks.with(NINETY);
        c.due("the first leaf", y.box(0, 9, 0), 4);
        c.due("the last box", y.box(0, 23, 1), 99);
    }

    @Sentence(promise = 8, inTerms = true, says = "the first is its ROOT, the others lie within their PARENT.")
    static void parents(Checks c) {
        RowsDrawn x = Checks.with("e(d(cb(a))c(b)e)");
        int[] parents = {-1, 0, 1, 1, 3, 0, 5, 0};
        for (int b = 0; b < parents.length; b++) {
            c.due("parent of box " + b, x.box(0, b, 2), parents[b]);
        }
        RowsDrawn deep = Checks.with("a(".repeat(23) + "a" + ")".repeat(23));
        for (int b = 0; b < 24; b++) {
            c.due("parent of box " + b + " down a chain", deep.box(0, b, 2), b - 1);
        }
    }

    // ---- promise 5

    @Sentence(promise = 5, says = "THE SHEET is read as a PAGE: its number;")
    static void pageOfOneLetterAndOf90(Checks c) {
        RowsDrawn x = new RowsDrawn();
        c.due("page() of one letter", Checks.page(x, "c"), 0);
        c.due("page() of 90", Checks.page(x, NINETY), 1);
        c.due("boxes of both", x.count(6), 25);
        c.due("kind of the first", x.box(0, 0, 0), 2);
        c.due("word of the second's root", x.box(1, 0, 1), 10);
    }

    @Sentence(promise = 5, says = "THE SHEET is empty then.")
    static void sheetIsEmptyBehindAPage(Checks c) {
        RowsDrawn x = Checks.with("a(b)");
        c.due("letters", x.count(3), 0);
        c.due("blank()", x.blank(), 0);
        c.due("page() again", x.page(), RowsDrawn.STATE);
        Checks.write(x, "e5");
        c.due("page() of what came since", x.page(), 1);
        c.due("its boxes", x.box(1, 1, 0), RowsDrawn.UNKNOWN);
    }

    @Sentence(promise = 5, says = "STATE: it is none;")
    static void sheetsThatAreNoPage(Checks c) {
        for (String text : new String[] {"", "a(", "a(b", "a(b(c)", "f", "a(b)x", "a/b", "a123", "*a", ">", "a(b,c)"}) {
            RowsDrawn x = new RowsDrawn();
            Checks.write(x, text);
            long before = x.digest();
            c.due("page() of '" + text + "'", x.page(), RowsDrawn.STATE);
            c.due("nothing changed", x.digest(), before);
        }
        RowsDrawn x = new RowsDrawn();
        Checks.page(x, "a(b");
        c.due("it can go on", x.letters(')'), 4);
        c.due("page() then", x.page(), 0);
    }

    @Sentence(promise = 5, says = "FULL.")
    static void ninthPage(Checks c) {
        RowsDrawn x = Checks.with("a", "a", "a", "a", "a", "a", "a");
        c.due("the eighth", Checks.page(x, "b1"), 7);
        Checks.write(x, "c(d)");
        long before = x.digest();
        c.due("the ninth", x.page(), RowsDrawn.FULL);
        c.due("nothing changed", x.digest(), before);
        c.due("the sheet stays", x.count(3), 4);
        c.due("as a rule it is none", x.rule(0), RowsDrawn.STATE);
        c.due("none is told ahead of full", Checks.page(x, "c("), RowsDrawn.STATE);
    }

    // ---- promise 8

    private static void toldOfBoxes(Checks c, String page, int what, int... want) {
        RowsDrawn x = Checks.with(page);
        for (int b = 0; b < want.length; b++) {
            c.due("box(0, " + b + ", " + what + ") of " + page, x.box(0, b, what), want[b]);
        }
    }

    @Sentence(promise = 8, says = "Of a BOX: what = 0 KIND (0 to 4),")
    static void kindOfABox(Checks c) {
        toldOfBoxes(c, "e(abcde)", 0, 4, 0, 1, 2, 3, 4);
    }

    @Sentence(promise = 8, says = "1 WORD (NONE),")
    static void wordOfABox(Checks c) {
        toldOfBoxes(c, "e(a0b00c9d99e)", 1, -1, 0, 0, 9, 99, -1);
    }

    @Sentence(promise = 8, says = "2 PARENT (NONE),")
    static void parentOfABox(Checks c) {
        toldOfBoxes(c, "e", 2, -1);
        toldOfBoxes(c, "e(a(b(c)d)e)", 2, -1, 0, 1, 2, 1, 0);
    }

    @Sentence(promise = 8, says = "3 how many right within,")
    static void howManyRightWithin(Checks c) {
        toldOfBoxes(c, "e", 3, 0);
        toldOfBoxes(c, "e(a(b(c)d)e)", 3, 2, 2, 1, 0, 0, 0);
        toldOfBoxes(c, "a(" + "b".repeat(23) + ")", 3, 23, 0);
    }

    @Sentence(promise = 8, says = "4 how deep (ROOT 0).")
    static void howDeep(Checks c) {
        toldOfBoxes(c, "e(a(b(c)d)e)", 4, 0, 1, 2, 3, 2, 1);
        RowsDrawn x = Checks.with("a(".repeat(23) + "a" + ")".repeat(23));
        c.due("the deepest there can be", x.box(0, 23, 4), 23);
    }

    @Sentence(promise = 8, says = "UNKNOWN: page, box;")
    static void unknownPageOrBox(Checks c) {
        RowsDrawn x = Checks.with("a(b)", "a(bcd)");
        c.refuses("box(page, 0, 0)", 0, 1, p -> x.box(p, 0, 0), RowsDrawn.UNKNOWN);
        c.refuses("box(0, box, 0)", 0, 1, b -> x.box(0, b, 0), RowsDrawn.UNKNOWN);
        c.refuses("box(1, box, 0)", 0, 3, b -> x.box(1, b, 0), RowsDrawn.UNKNOWN);
        c.due("no page at all", new RowsDrawn().box(0, 0, 0), RowsDrawn.UNKNOWN);
        c.due("unknown page ahead of outside", x.box(2, 0, 5), RowsDrawn.UNKNOWN);
        c.due("unknown box ahead of outside", x.box(0, 2, -1), RowsDrawn.UNKNOWN);
    }

    @Sentence(promise = 8, says = "OUTSIDE.")
    static void whatOfABox(Checks c) {
        RowsDrawn x = Checks.with("a(b1)");
        c.refuses("box(0, 1, what)", 0, 4, what -> x.box(0, 1, what), RowsDrawn.OUTSIDE);
    }
}
