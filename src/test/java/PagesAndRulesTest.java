/** Promises 1 to 11: the sheet, pages, rules and what rules give. */
public final class PagesAndRulesTest {
    private static final Checks c = new Checks();
    private static final int MIN = Integer.MIN_VALUE, MAX = Integer.MAX_VALUE;
    //                                   0 1 2   3 4   5  6 7   8  9 10  11
    private static final String SHELF = "a(c9b(d(c11d5)d(c12d7)d(c13))e)";

    public static void main(String[] args) {
        newObject();
        letters();
        blank();
        faultOfPages();
        faultOfRules();
        faultsApart();
        page();
        rule();
        as();
        box();
        gives();
        givesBySort();
        word();
        within();
        c.end("PagesAndRulesTest");
    }

    private static void newObject() {
        RowsDrawn x = new RowsDrawn();
        for (int what = 0; what <= 6; what++) {
            c.due("1 count(" + what + ") of a new object", x.count(what), 0);
        }
        c.due("1 gives", x.gives(0, 0), RowsDrawn.UNKNOWN);
        c.due("1 as", x.as(0, 0), RowsDrawn.UNKNOWN);
        c.due("1 box", x.box(0, 0, 0), RowsDrawn.UNKNOWN);
        c.due("1 holds", x.holds(0, 0, 0), RowsDrawn.UNKNOWN);
        c.due("1 ask", x.ask(0), RowsDrawn.NONE);
        RowsDrawn other = new RowsDrawn();
        Checks.page(other, "a");
        c.due("1 objects are apart", x.count(0), 0);
    }

    private static void letters() {
        RowsDrawn x = new RowsDrawn();
        c.due("2 none", x.letters(0L), 0);
        c.due("2 one", x.letters('a'), 1);
        c.due("2 eight", x.letters(Checks.packed("(b12c3d)")), 9);
        c.due("2 code 126", x.letters(126L), 10);
        c.due("2 code 127", x.letters(127L), RowsDrawn.OUTSIDE);
        c.due("2 code 128", x.letters(128L), RowsDrawn.OUTSIDE);
        c.due("2 code 255 in the highest byte", x.letters(-1L), RowsDrawn.OUTSIDE);
        c.due("2 highest byte 128", x.letters(MIN_LONG_WITH_LETTERS), RowsDrawn.OUTSIDE);
        c.due("2 behind a 0", x.letters(0x6100L), RowsDrawn.OUTSIDE);
        c.due("2 far behind a 0", x.letters(0x0100000000000061L), RowsDrawn.OUTSIDE);
        c.due("2 refusals change nothing", x.count(3), 10);
        for (int i = 0; i < 10; i++) {
            x.letters(Checks.packed("aaaaaaaa"));
        }
        c.due("2 90 letters stand", x.count(3), 90);
        c.due("2 none more at 90", x.letters(0L), 90);
        c.due("2 full", x.letters('a'), RowsDrawn.FULL);
        c.due("2 outside is told ahead of full", x.letters(127L), RowsDrawn.OUTSIDE);
        x.blank();
        Checks.write(x, "a".repeat(83));
        c.due("2 eight do not fit behind 83", x.letters(Checks.packed("bbbbbbbb")), RowsDrawn.FULL);
        c.due("2 seven fit behind 83", x.letters(Checks.packed("bbbbbbb")), 90);
    }

    private static final long MIN_LONG_WITH_LETTERS = Long.MIN_VALUE | Checks.packed("aaaaaaa");

    private static void blank() {
        RowsDrawn x = new RowsDrawn();
        c.due("3 nothing", x.blank(), 0);
        Checks.write(x, "a(b)");
        c.due("3 four", x.blank(), 4);
        c.due("3 empty then", x.count(3), 0);
        c.due("3 empty is no page", x.page(), RowsDrawn.STATE);
        Checks.write(x, "b");
        c.due("3 what comes next stands alone", x.page(), 0);
        c.due("3 its kind", x.box(0, 0, 0), 1);
    }

    private static void pageFault(String text, int want) {
        c.due("4 fault(0) of " + text, Checks.fault(new RowsDrawn(), 0, text), want);
    }

    private static void ruleFault(String text, int want) {
        c.due("4 fault(1) of " + text, Checks.fault(new RowsDrawn(), 1, text), want);
    }

    private static void faultOfPages() {
        pageFault("", 0);
        pageFault("a", 1);
        pageFault("e99", 3);
        pageFault("a007", 3);
        pageFault("f", 0);
        pageFault("A", 0);
        pageFault("`", 0);
        pageFault("1", 0);
        pageFault("(", 0);
        pageFault(")", 0);
        pageFault("ab", 1);
        pageFault("a)", 1);
        pageFault("a(", 2);
        pageFault("a()", 2);
        pageFault("a((", 2);
        pageFault("a(1", 2);
        pageFault("a(b", 3);
        pageFault("a(b)", 4);
        pageFault("a(b)c", 4);
        pageFault("a(b)1", 4);
        pageFault("a(b)(", 4);
        pageFault("a(b))", 4);
        pageFault("a(b(c)1)", 6);
        pageFault("a(b(c)(d))", 6);
        pageFault("a(b(c)d)", 8);
        pageFault("a1(b2(c3)d44)", 13);
        pageFault("a b", 1);
        pageFault("a/b", 1);
        pageFault("a(:)", 2);
        pageFault(SHELF, SHELF.length());
        String full = "a(" + "b".repeat(23);
        pageFault(full, 25);
        pageFault(full + "b", 25);
        pageFault(full + "(", 25);
        pageFault(full + "1", 26);
        pageFault(full + "12(", 27);
        pageFault(full + ")", 26);
        pageFault(full.substring(0, 24) + "(b))", 28);
        pageFault("a(".repeat(23) + "a", 47);
        pageFault("a(".repeat(24), 47);
        pageFault("a(".repeat(23) + "a" + ")".repeat(23), 70);
        pageFault("a(".repeat(23) + "a" + ")".repeat(24), 70);
        RowsDrawn x = new RowsDrawn();
        for (int sort : new int[] {-1, 2, 3, MIN, MAX}) {
            c.due("4 sort " + sort, x.fault(sort), RowsDrawn.OUTSIDE);
        }
        Checks.write(x, "a(b");
        x.fault(0);
        c.due("4 the sheet stays", x.count(3), 3);
        c.due("4 and can go on", x.letters(')'), 4);
        c.due("4 as a page", x.page(), 0);
    }

    /** What was read before leaves nothing behind. */
    private static void faultsApart() {
        RowsDrawn x = new RowsDrawn();
        String[] halves = {"", "*", "a/", "a", "a(", "a(b", "a(b(c)", "a1", "a(b)", "a/b/c/d/e/a", "a(" + "b".repeat(23)};
        for (String half : halves) {
            for (int sort = 0; sort <= 1; sort++) {
                Checks.fault(x, sort, half);
                c.due("4 a page behind " + half, Checks.fault(x, 0, "a12(b3)"), 7);
                Checks.fault(x, sort, half);
                c.due("4 a digit behind " + half, Checks.fault(x, 0, "1"), 0);
                Checks.fault(x, sort, half);
                c.due("4 a rule behind " + half, Checks.fault(x, 1, "b/*c/0"), 6);
                Checks.fault(x, sort, half);
                c.due("4 a digit as a rule behind " + half, Checks.fault(x, 1, "0/>"), 3);
            }
        }
    }

    private static void faultOfRules() {
        ruleFault("", 0);
        ruleFault("a", 1);
        ruleFault("e", 1);
        ruleFault("f", 0);
        ruleFault("9", 1);
        ruleFault(">", 1);
        ruleFault("*", 1);
        ruleFault("*e", 2);
        ruleFault("**", 1);
        ruleFault("*1", 1);
        ruleFault("*>", 1);
        ruleFault("*/", 1);
        ruleFault("/", 0);
        ruleFault("a/", 2);
        ruleFault("a//", 2);
        ruleFault("ab", 1);
        ruleFault("12", 1);
        ruleFault(">>", 1);
        ruleFault("*ab", 2);
        ruleFault("a/*b/>/0", 8);
        ruleFault("a/b/c/d/e/0", 11);
        ruleFault("a/b/c/d/e/0/", 11);
        ruleFault("*a/*b/*c/*d/*e/*a", 17);
        ruleFault("*a/*b/*c/*d/*e/*a/", 17);
        ruleFault("a(b)", 1);
    }

    private static void page() {
        RowsDrawn x = new RowsDrawn();
        c.due("5 first", Checks.page(x, SHELF), 0);
        c.due("5 the sheet is empty then", x.count(3), 0);
        c.due("5 second", Checks.page(x, "b07"), 1);
        c.due("5 07 is 7", x.box(1, 0, 1), 7);
        c.due("5 half a page", Checks.page(x, "a(b"), RowsDrawn.STATE);
        c.due("5 the sheet stays", x.count(3), 3);
        c.due("5 a fault", Checks.page(x, "a()"), RowsDrawn.STATE);
        c.due("5 two roots", Checks.page(x, "ab"), RowsDrawn.STATE);
        c.due("5 25 boxes", Checks.page(x, "a(" + "b".repeat(24) + ")"), RowsDrawn.STATE);
        c.due("5 24 boxes", Checks.page(x, "a(" + "b".repeat(23) + ")"), 2);
        c.due("5 the last of them", x.box(2, 23, 2), 0);
        c.due("5 none behind it", x.box(2, 24, 2), RowsDrawn.UNKNOWN);
        for (int p = 3; p < 8; p++) {
            c.due("5 page " + p, Checks.page(x, "a"), p);
        }
        c.due("5 a ninth", Checks.page(x, "a"), RowsDrawn.FULL);
        c.due("5 full leaves the sheet", x.count(3), 1);
        c.due("5 and the pages", x.count(0), 8);
        c.due("5 the eighth", x.box(7, 0, 0), 0);
        c.due("5 none behind the eighth", x.box(8, 0, 0), RowsDrawn.UNKNOWN);
        c.due("5 state is told ahead of full", Checks.page(x, "a("), RowsDrawn.STATE);
    }

    private static void rule() {
        RowsDrawn x = new RowsDrawn();
        for (int sort = 0; sort <= 5; sort++) {
            c.due("6 sort " + sort, Checks.rule(x, sort, "*a/b/9/>"), sort);
            c.due("6 the sheet is empty then", x.count(3), 0);
        }
        c.due("6 star alone", Checks.rule(x, 0, "*"), RowsDrawn.STATE);
        c.due("6 a slash at the end", Checks.rule(x, 0, "a/"), RowsDrawn.STATE);
        c.due("6 empty", Checks.rule(x, 0, ""), RowsDrawn.STATE);
        c.due("6 seven steps", Checks.rule(x, 0, "a/a/a/a/a/a/a"), RowsDrawn.STATE);
        c.due("6 a page is none", Checks.rule(x, 0, "a(b)"), RowsDrawn.STATE);
        c.due("6 the sheet stays", x.count(3), 4);
        for (int sort : new int[] {-1, 6, MIN, MAX}) {
            c.due("6 outside ahead of state", x.rule(sort), RowsDrawn.OUTSIDE);
        }
        for (int r = 6; r < 10; r++) {
            c.due("6 rule " + r, Checks.rule(x, 0, "a/a/a/a/a/a"), r);
        }
        c.due("6 an eleventh", Checks.rule(x, 0, "a"), RowsDrawn.FULL);
        c.due("6 full leaves the sheet", x.count(3), 1);
        c.due("6 outside ahead of full", x.rule(6), RowsDrawn.OUTSIDE);
        c.due("6 state ahead of full", Checks.rule(x, 0, "/"), RowsDrawn.STATE);
        c.due("6 ten rules", x.count(1), 10);
        c.due("6 the tenth", x.as(9, 0), 9);
        c.due("6 none behind the tenth", x.as(10, 0), RowsDrawn.UNKNOWN);
    }

    private static void as() {
        RowsDrawn x = new RowsDrawn();
        for (int sort = 0; sort <= 5; sort++) {
            Checks.rule(x, sort, "a");
        }
        for (int r = 0; r <= 5; r++) {
            for (int sort = 0; sort <= 5; sort++) {
                boolean is = sort == 0 || sort == r || (sort == 1 && (r == 4 || r == 5));
                c.due("7 as(" + r + ", " + sort + ")", x.as(r, sort), is ? r : RowsDrawn.NONE);
            }
        }
        c.due("7 unknown", x.as(6, 0), RowsDrawn.UNKNOWN);
        c.due("7 unknown below", x.as(-1, 0), RowsDrawn.UNKNOWN);
        c.due("7 outside", x.as(0, 6), RowsDrawn.OUTSIDE);
        c.due("7 outside below", x.as(0, -1), RowsDrawn.OUTSIDE);
        c.due("7 unknown ahead of outside", x.as(MAX, MIN), RowsDrawn.UNKNOWN);
    }

    private static void boxIs(RowsDrawn x, int box, int... want) {
        for (int what = 0; what < 5; what++) {
            c.due("8 box(0, " + box + ", " + what + ")", x.box(0, box, what), want[what]);
        }
    }

    private static void box() {
        RowsDrawn x = new RowsDrawn();
        Checks.page(x, SHELF);
        boxIs(x, 0, 0, -1, -1, 3, 0);
        boxIs(x, 1, 2, 9, 0, 0, 1);
        boxIs(x, 2, 1, -1, 0, 3, 1);
        boxIs(x, 3, 3, -1, 2, 2, 2);
        boxIs(x, 4, 2, 11, 3, 0, 3);
        boxIs(x, 9, 3, -1, 2, 1, 2);
        boxIs(x, 10, 2, 13, 9, 0, 3);
        boxIs(x, 11, 4, -1, 0, 0, 1);
        c.due("8 no such box", x.box(0, 12, 0), RowsDrawn.UNKNOWN);
        c.due("8 box below", x.box(0, -1, 0), RowsDrawn.UNKNOWN);
        c.due("8 no such page", x.box(1, 0, 0), RowsDrawn.UNKNOWN);
        c.due("8 page below", x.box(MIN, 0, 0), RowsDrawn.UNKNOWN);
        c.due("8 what 5", x.box(0, 0, 5), RowsDrawn.OUTSIDE);
        c.due("8 what -1", x.box(0, 0, -1), RowsDrawn.OUTSIDE);
        c.due("8 unknown ahead of outside", x.box(0, MAX, MAX), RowsDrawn.UNKNOWN);
        Checks.page(x, "a(".repeat(23) + "e" + ")".repeat(23));
        c.due("8 deepest", x.box(1, 23, 4), 23);
        Checks.page(x, "a(b0c00d01e99)");
        c.due("8 word 0", x.box(2, 1, 1), 0);
        c.due("8 word 00", x.box(2, 2, 1), 0);
        c.due("8 word 01", x.box(2, 3, 1), 1);
        c.due("8 word 99", x.box(2, 4, 1), 99);
    }

    private static void givesIs(String pageText, int sort, String ruleText, int want) {
        RowsDrawn x = new RowsDrawn();
        Checks.page(x, pageText);
        Checks.rule(x, sort, ruleText);
        c.due("9 " + ruleText + " of sort " + sort + " on " + pageText, x.gives(0, 0), want);
    }

    private static void gives() {
        givesIs(SHELF, 0, "a", 0);
        givesIs(SHELF, 0, "b", Checks.bits(2));
        givesIs(SHELF, 0, "b/d", Checks.bits(3, 6, 9));
        givesIs(SHELF, 0, "b/d/c", Checks.bits(4, 7, 10));
        givesIs(SHELF, 0, "b/d/1", Checks.bits(5, 8));
        givesIs(SHELF, 0, "*d", Checks.bits(3, 5, 6, 8, 9));
        givesIs(SHELF, 0, "*d/*d", Checks.bits(5, 8));
        givesIs(SHELF, 0, "*a", 0);
        givesIs("a(b(a(a)ba)a)", 0, "*a", Checks.bits(2, 3, 5, 6));
        givesIs("a(b(a(a)ba)a)", 0, "*a/>", Checks.bits(4));
        givesIs("e(b(e(a)be)a)", 0, "*e", Checks.bits(2, 5));
        givesIs(SHELF, 0, ">", 0);
        givesIs(SHELF, 0, "c/>", Checks.bits(2));
        givesIs(SHELF, 0, "c/>/>", Checks.bits(11));
        givesIs(SHELF, 0, "e/>", 0);
        givesIs(SHELF, 0, "*c/>", Checks.bits(2, 5, 8));
        givesIs(SHELF, 0, "b/d/>", Checks.bits(6, 9));
        givesIs(SHELF, 0, "0", Checks.bits(1));
        givesIs(SHELF, 0, "2", Checks.bits(11));
        givesIs(SHELF, 0, "3", 0);
        givesIs("a(bcdeabcdeabc)", 0, "0", Checks.bits(1));
        for (int digit = 1; digit <= 9; digit++) {
            givesIs("a(bcdeabcdeabc)", 0, String.valueOf((char) ('0' + digit)), Checks.bits(digit + 1));
        }
        givesIs("a(bcdea)", 0, "5", 0);
        givesIs("a(bcdea)", 0, "9", 0);
        givesIs("a(b(c(d(e(a(b))))))", 0, "b/c/d/e/a/b", Checks.bits(6));
        givesIs("a(" + "b".repeat(23) + ")", 0, "*b", 0xFFFFFE);
        RowsDrawn x = new RowsDrawn();
        Checks.page(x, SHELF);
        Checks.page(x, "a(bb)");
        Checks.rule(x, 0, "b");
        c.due("9 on another page", x.gives(0, 1), 6);
        c.due("9 rule", x.gives(1, 0), RowsDrawn.UNKNOWN);
        c.due("9 rule below", x.gives(-1, 0), RowsDrawn.UNKNOWN);
        c.due("9 page", x.gives(0, 2), RowsDrawn.UNKNOWN);
        c.due("9 page below", x.gives(0, MIN), RowsDrawn.UNKNOWN);
    }

    private static void givesBySort() {
        givesIs(SHELF, 1, "*d", Checks.bits(3, 6, 9));
        givesIs(SHELF, 2, "*d", Checks.bits(3));
        givesIs(SHELF, 3, "*d", Checks.bits(5, 8));
        givesIs(SHELF, 4, "*d", Checks.bits(3));
        givesIs(SHELF, 5, "*d", Checks.bits(6, 9));
        String first = "a(b b(c) b1 b2(d))".replace(" ", "");
        givesIs(first, 0, "b", Checks.bits(1, 2, 4, 5));
        givesIs(first, 1, "b", Checks.bits(2, 5));
        givesIs(first, 2, "b", Checks.bits(1));
        givesIs(first, 3, "b", Checks.bits(4, 5));
        givesIs(first, 4, "b", Checks.bits(2));
        givesIs(first, 5, "b", Checks.bits(5));
        for (int sort = 0; sort <= 5; sort++) {
            givesIs(first, sort, "e", 0);
        }
        givesIs("a(b(c)b)", 5, "b", 0);
        givesIs("a(b0)", 3, "b", Checks.bits(1));
    }

    private static void word() {
        RowsDrawn x = new RowsDrawn();
        Checks.page(x, "a(b5cb0b(d)b12)");
        Checks.rule(x, 0, "b");
        Checks.rule(x, 3, "b");
        c.due("10 first", x.word(0, 0, 0), 5);
        c.due("10 zero", x.word(0, 0, 1), 0);
        c.due("10 none", x.word(0, 0, 2), RowsDrawn.NONE);
        c.due("10 last", x.word(0, 0, 3), 12);
        c.due("10 behind", x.word(0, 0, 4), -2);
        c.due("10 below", x.word(0, 0, -1), -2);
        c.due("10 far", x.word(0, 0, MAX), -2);
        c.due("10 far below", x.word(0, 0, MIN), -2);
        c.due("10 by sort", x.word(1, 0, 2), 12);
        c.due("10 rule", x.word(2, 0, 0), RowsDrawn.UNKNOWN);
        c.due("10 page", x.word(0, 1, 0), RowsDrawn.UNKNOWN);
    }

    private static void within() {
        RowsDrawn x = new RowsDrawn();
        Checks.page(x, SHELF);
        Checks.rule(x, 0, "*c");
        Checks.rule(x, 2, "*c");
        Checks.rule(x, 0, ">");
        Checks.rule(x, 5, "d");
        c.due("11 from the root", x.within(0, 0, 0), x.gives(0, 0));
        c.due("11 from b", x.within(0, 0, 2), Checks.bits(4, 7, 10));
        c.due("11 from a d", x.within(0, 0, 6), Checks.bits(7));
        c.due("11 from a leaf", x.within(0, 0, 4), 0);
        c.due("11 a cell from b", x.within(1, 0, 2), Checks.bits(4));
        c.due("11 next from a c", x.within(2, 0, 1), Checks.bits(2));
        c.due("11 next from a d", x.within(2, 0, 3), Checks.bits(6));
        c.due("11 next from the last", x.within(2, 0, 9), 0);
        c.due("11 next from the root", x.within(2, 0, 0), 0);
        c.due("11 the rest from b", x.within(3, 0, 2), Checks.bits(6, 9));
        c.due("11 rule", x.within(4, 0, 0), RowsDrawn.UNKNOWN);
        c.due("11 page", x.within(0, 1, 0), RowsDrawn.UNKNOWN);
        c.due("11 box", x.within(0, 0, 12), RowsDrawn.UNKNOWN);
        c.due("11 box below", x.within(0, 0, -1), RowsDrawn.UNKNOWN);
    }
}
