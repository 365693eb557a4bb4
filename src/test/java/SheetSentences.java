/** Sentences of promises 1 to 4: a new object, THE SHEET, and where its text goes wrong. */
final class SheetSentences {
    private SheetSentences() {
    }

    private static RowsDrawn sheetOf(int letters) {
        RowsDrawn x = new RowsDrawn();
        Checks.write(x, "a".repeat(letters));
        return x;
    }

    // ---- promise 1

    @Sentence(promise = 1, says = "No pages, no rules.")
    static void newObjectHasNothing(Checks c) {
        RowsDrawn x = new RowsDrawn();
        for (int what = 0; what <= 6; what++) {
            c.due("count(" + what + ")", x.count(what), 0);
        }
        c.due("box(0, 0, 0)", x.box(0, 0, 0), RowsDrawn.UNKNOWN);
        c.due("as(0, 0)", x.as(0, 0), RowsDrawn.UNKNOWN);
        c.due("the first page", Checks.page(x, "a"), 0);
        c.due("the first rule", Checks.rule(x, 0, "a"), 0);
        c.due("another new object", new RowsDrawn().count(0), 0);
    }

    // ---- promise 2

    @Sentence(promise = 2, says = "Letters come behind THE SHEET, up to eight, told by their codes in the bytes of w, "
        + "the lowest byte first,")
    static void eightLettersTheLowestFirst(Checks c) {
        RowsDrawn x = new RowsDrawn();
        c.due("eight letters", x.letters(0x2965353064283761L), 8);
        c.due("eight behind them", x.letters(0x2929292929292929L), 16);
        c.due("the first eight stand ahead", x.fault(0), 8);
        x.blank();
        x.letters(0x2965353064283761L);
        c.due("they are a7(d05e)", x.page(), 0);
        c.due("the root's kind", x.box(0, 0, 0), 0);
        c.due("the root's word", x.box(0, 0, 1), 7);
        c.due("the first within", x.box(0, 1, 0), 3);
        c.due("its word", x.box(0, 1, 1), 5);
        c.due("the second within", x.box(0, 2, 0), 4);
    }

    @Sentence(promise = 2, says = "until a byte that is 0: how many THE SHEET has.")
    static void noneToEightLetters(Checks c) {
        RowsDrawn x = new RowsDrawn();
        int stand = 0;
        for (int more = 0; more <= 8; more++) {
            stand += more;
            c.due(more + " letters", x.letters(Checks.packed("b".repeat(more))), stand);
            c.due("count(3) then", x.count(3), stand);
        }
        c.due("none again", x.letters(0L), stand);
    }

    @Sentence(promise = 2, says = "OUTSIDE: a byte above 126,")
    static void codesAbove126(Checks c) {
        for (int place = 0; place < 8; place++) {
            for (int code : new int[] {127, 128, 254, 255}) {
                RowsDrawn x = sheetOf(3);
                long w = Checks.packed("a".repeat(place)) | (long) code << (8 * place);
                c.due("code " + code + " at place " + place, x.letters(w), RowsDrawn.OUTSIDE);
                c.due("letters then", x.count(3), 3);
            }
            for (int code : new int[] {1, 96, 126}) {
                long w = Checks.packed("a".repeat(place)) | (long) code << (8 * place);
                c.due("code " + code + " at place " + place, sheetOf(3).letters(w), 3 + place + 1);
            }
        }
        c.due("all bytes 255", new RowsDrawn().letters(-1L), RowsDrawn.OUTSIDE);
        c.due("the least long", new RowsDrawn().letters(Long.MIN_VALUE), RowsDrawn.OUTSIDE);
        c.due("all bytes 126", new RowsDrawn().letters(0x7E7E7E7E7E7E7E7EL), 8);
    }

    @Sentence(promise = 2, says = "or one behind a 0 that is not 0;")
    static void lettersBehindAZero(Checks c) {
        for (int zero = 0; zero < 7; zero++) {
            for (int behind = zero + 1; behind < 8; behind++) {
                for (int code : new int[] {1, 'a', 126}) {
                    RowsDrawn x = sheetOf(2);
                    long w = Checks.packed("a".repeat(zero)) | (long) code << (8 * behind);
                    c.due("0 at " + zero + ", " + code + " at " + behind, x.letters(w), RowsDrawn.OUTSIDE);
                    c.due("letters then", x.count(3), 2);
                }
            }
        }
    }

    @Sentence(promise = 2, says = "FULL: above 90.")
    static void ninetyLetters(Checks c) {
        for (int more = 0; more <= 8; more++) {
            long w = Checks.packed("b".repeat(more));
            c.due(more + " letters up to 90", sheetOf(90 - more).letters(w), 90);
            if (more > 0) {
                RowsDrawn x = sheetOf(91 - more);
                long before = x.digest();
                c.due(more + " letters up to 91", x.letters(w), RowsDrawn.FULL);
                c.due("none of them came", x.digest(), before);
            }
        }
    }

    // ---- promise 3

    @Sentence(promise = 3, says = "THE SHEET is empty: how many letters it had.")
    static void blankOfNoneOneAndNinety(Checks c) {
        for (int letters : new int[] {0, 1, 89, 90}) {
            RowsDrawn x = sheetOf(letters);
            c.due("blank() of " + letters, x.blank(), letters);
            c.due("letters then", x.count(3), 0);
            c.due("blank() again", x.blank(), 0);
            c.due("as a new object", x.digest(), new RowsDrawn().digest());
            c.due("90 fit again", fill(x), 90);
        }
    }

    private static int fill(RowsDrawn x) {
        Checks.write(x, "b".repeat(90));
        return x.count(3);
    }

    // ---- promise 4

    private static boolean isPage(String text) {
        if (text.replaceAll("[^a-e]", "").length() > 24 || !text.matches("[a-e0-9()]*")) {
            return false;
        }
        // X is a BOX that may still have BOXES within, Y one that has them.
        String rest = text.replaceAll("[a-e][0-9]{0,2}", "X");
        for (int i = 0; i < 24; i++) {
            rest = rest.replaceAll("X\\([XY]+\\)", "Y");
        }
        return rest.equals("X") || rest.equals("Y");
    }

    private static boolean isRule(String text) {
        return text.matches("([a-e0-9>]|\\*[a-e])(/([a-e0-9>]|\\*[a-e])){0,5}");
    }

    /** Whether some PAGE or RULE begins so: a letter and closings are enough to end any that does. */
    private static boolean begins(int sort, String text) {
        if (sort == 1) {
            return isRule(text) || isRule(text + "a");
        }
        for (int closings = 0; closings <= 24; closings++) {
            String end = ")".repeat(closings);
            if (isPage(text + end) || isPage(text + "a" + end)) {
                return true;
            }
        }
        return false;
    }

    /** All texts over some signs of up to so many letters, and what fault() tells of them. */
    private static void shortTexts(Checks c, int sort, String signs, String text, int place, int most) {
        int first = place;
        if (first == text.length() - 1 && begins(sort, text)) {
            first = text.length();
        }
        int answer = Checks.fault(new RowsDrawn(), sort, text);
        c.due("fault(" + sort + ") of '" + text + "'", answer, first);
        for (int i = 0; i < signs.length() && text.length() < most; i++) {
            shortTexts(c, sort, signs, text + signs.charAt(i), first, most);
        }
    }

    private static void faultIs(Checks c, int sort, String text, int want) {
        c.due("fault(" + sort + ") of '" + text + "'", Checks.fault(new RowsDrawn(), sort, text), want);
    }

    @Sentence(promise = 4, says = "The place (from 0) of the first letter of THE SHEET that no PAGE (sort 0;")
    static void faultsOfPages(Checks c) {
        shortTexts(c, 0, "ae1()f", "", 0, 4);
        shortTexts(c, 0, "b2()", "", 0, 6);
        for (int code = 1; code <= 126; code++) {
            String sign = String.valueOf((char) code);
            faultIs(c, 0, sign, sign.matches("[a-e]") ? 1 : 0);
            faultIs(c, 0, "a" + sign, sign.matches("[0-9(]") ? 2 : 1);
            faultIs(c, 0, "a(" + sign, sign.matches("[a-e]") ? 3 : 2);
            faultIs(c, 0, "a(b" + sign, sign.matches("[a-e0-9()]") ? 4 : 3);
            faultIs(c, 0, "a(b12" + sign, sign.matches("[a-e()]") ? 6 : 5);
            faultIs(c, 0, "a(b(c)" + sign, sign.matches("[a-e)]") ? 7 : 6);
            faultIs(c, 0, "a(b)" + sign, 4);
        }
        faultIs(c, 0, "a(b)" + "c".repeat(86), 4);
    }

    @Sentence(promise = 4, says = "behind 24 BOXES no other one, nor \"(\", can stand),")
    static void faultsBehind24Boxes(Checks c) {
        String flat = "a(" + "b".repeat(23);
        faultIs(c, 0, flat.substring(0, 24) + "b", 25);
        faultIs(c, 0, flat.substring(0, 24) + "(", 25);
        faultIs(c, 0, flat.substring(0, 24) + "(b", 26);
        faultIs(c, 0, flat.substring(0, 24) + "(bb", 26);
        faultIs(c, 0, flat.substring(0, 24) + "(b(", 26);
        faultIs(c, 0, flat.substring(0, 24) + "(b)b", 27);
        faultIs(c, 0, flat + "b", 25);
        faultIs(c, 0, flat + "(", 25);
        faultIs(c, 0, flat + "99(", 27);
        faultIs(c, 0, flat + "99b", 27);
        faultIs(c, 0, flat + "99)", 28);
        String deep = "a(".repeat(23) + "a";
        faultIs(c, 0, deep + "(", 47);
        faultIs(c, 0, deep + "a", 47);
        faultIs(c, 0, deep + ")a", 48);
        faultIs(c, 0, deep + ")".repeat(23), 70);
        faultIs(c, 0, deep + ")".repeat(24), 70);
    }

    @Sentence(promise = 4, says = "RULE (1;")
    static void faultsOfRules(Checks c) {
        shortTexts(c, 1, "a4*/>f", "", 0, 4);
        for (int code = 1; code <= 126; code++) {
            String sign = String.valueOf((char) code);
            faultIs(c, 1, sign, sign.matches("[a-e0-9*>]") ? 1 : 0);
            faultIs(c, 1, "a" + sign, sign.equals("/") ? 2 : 1);
            faultIs(c, 1, "*" + sign, sign.matches("[a-e]") ? 2 : 1);
            faultIs(c, 1, "0/" + sign, sign.matches("[a-e0-9*>]") ? 3 : 2);
        }
    }

    @Sentence(promise = 4, says = "behind 6 STEPS no \"/\") has there, behind those ahead of it;")
    static void faultsBehindSixSteps(Checks c) {
        faultIs(c, 1, "a/0/>/b/c/", 10);
        faultIs(c, 1, "a/0/>/b/c/d", 11);
        faultIs(c, 1, "a/0/>/b/c/d/", 11);
        faultIs(c, 1, "a/0/>/b/c/d/e", 11);
        faultIs(c, 1, "*a/*b/*c/*d/*e/", 15);
        faultIs(c, 1, "*a/*b/*c/*d/*e/*a", 17);
        faultIs(c, 1, "*a/*b/*c/*d/*e/*a/", 17);
        faultIs(c, 1, "*a/*b/*c/*d/*e/*a/*b", 17);
    }

    @Sentence(promise = 4, says = "how many letters it has, if there is none.")
    static void noFault(Checks c) {
        for (int sort = 0; sort <= 1; sort++) {
            faultIs(c, sort, "", 0);
            faultIs(c, sort, "a", 1);
        }
        // What ends too early has no fault either: something may still come.
        faultIs(c, 0, "a(", 2);
        faultIs(c, 0, "a(b1", 4);
        faultIs(c, 1, "a/", 2);
        faultIs(c, 1, "*", 1);
        faultIs(c, 0, PageSentences.NINETY, 90);
        // What was looked at before leaves nothing behind.
        RowsDrawn x = new RowsDrawn();
        for (String text : new String[] {"*", "0/>", "a/", "a", "*", "*b", "a/b/c/d/e/0", "1"}) {
            c.due("fault(1) of '" + text + "'", Checks.fault(x, 1, text), text.length());
        }
        for (String text : new String[] {"a(", "a12", "a(b(c)", "a", "a(b)", "a(" + "b".repeat(23), "a1(b)"}) {
            c.due("fault(0) of '" + text + "'", Checks.fault(x, 0, text), text.length());
        }
    }

    @Sentence(promise = 4, says = "OUTSIDE.")
    static void faultOfOtherSorts(Checks c) {
        RowsDrawn x = sheetOf(4);
        c.refuses("fault(sort)", 0, 1, x::fault, RowsDrawn.OUTSIDE);
        c.refuses("fault(sort) of nothing", 0, 1, new RowsDrawn()::fault, RowsDrawn.OUTSIDE);
        c.due("letters then", x.count(3), 4);
    }
}
