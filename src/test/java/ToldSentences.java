import java.util.ArrayList;
import java.util.List;
import java.util.function.IntSupplier;

/** Sentences of promises 26 and 27, about refusals, and about how long an object is used. */
final class ToldSentences {
    private ToldSentences() {
    }

    private static long digestOf(long... numbers) {
        long h = 331;
        for (long n : numbers) {
            h = 31 * h + n;
        }
        return h;
    }

    // ---- Terms

    /** Calls that are refused, each with what it answers. */
    private static final class Refusals {
        final List<String> names = new ArrayList<>();
        final List<IntSupplier> calls = new ArrayList<>();
        final List<Integer> answers = new ArrayList<>();

        void add(int answer, String name, IntSupplier call) {
            names.add(name);
            calls.add(call);
            answers.add(answer);
        }

        void run(Checks c, RowsDrawn x) {
            for (int i = 0; i < calls.size(); i++) {
                long before = x.digest();
                int asked = x.ask(2);
                int fitting = x.fits(0);
                c.due(names.get(i), calls.get(i).getAsInt(), answers.get(i));
                c.due("digest() behind " + names.get(i), x.digest(), before);
                c.due("ask(2) behind " + names.get(i), x.ask(2), asked);
                c.due("fits(0) behind " + names.get(i), x.fits(0), fitting);
            }
        }
    }

    /** An object with as many PAGES, RULES and LAWS as there can be, marks, and a letter on THE SHEET. */
    private static RowsDrawn full(String sheet) {
        RowsDrawn x = Checks.with("a(b1)", "a(cb)", "a(b(c1d2))", "a(b)", "a", "a", "a", "a");
        for (int r = 0; r < 10; r++) {
            Checks.rule(x, r % 6, r == 9 ? "e" : "b");
        }
        for (int i = 0; i < 8; i++) {
            x.law(i % 4, 1, 9);
        }
        x.mark(0, 1, 1);
        x.whole(4, true);
        Checks.write(x, sheet);
        return x;
    }

    @Sentence(promise = 27, inTerms = true, says = "Refusals, of several the first as told by each call: "
        + "UNKNOWN (a number names nothing), OUTSIDE (it is not as told), STATE (as told), FULL;")
    static void theFirstOfSeveralRefusals(Checks c) {
        RowsDrawn x = full("a".repeat(90));
        RowsDrawn bare = new RowsDrawn();
        c.due("letters: OUTSIDE, FULL", x.letters(127), RowsDrawn.OUTSIDE);
        c.due("letters: OUTSIDE behind letters that are too many", x.letters(0x7F6161616161L), RowsDrawn.OUTSIDE);
        c.due("letters: FULL", x.letters('a'), RowsDrawn.FULL);
        c.due("page: STATE, FULL", x.page(), RowsDrawn.STATE);
        c.due("rule: OUTSIDE, STATE, FULL", x.rule(6), RowsDrawn.OUTSIDE);
        c.due("rule: STATE, FULL", x.rule(5), RowsDrawn.STATE);
        c.due("as: UNKNOWN, OUTSIDE", x.as(10, 6), RowsDrawn.UNKNOWN);
        c.due("box: UNKNOWN, OUTSIDE", x.box(8, 0, 5), RowsDrawn.UNKNOWN);
        c.due("mark: UNKNOWN, OUTSIDE", x.mark(0, 2, 3), RowsDrawn.UNKNOWN);
        c.due("fits: OUTSIDE, STATE", bare.fits(4), RowsDrawn.OUTSIDE);
        c.due("step: OUTSIDE, STATE", bare.step(0, 3), RowsDrawn.OUTSIDE);
        c.due("law: OUTSIDE, FULL", x.law(0, 2, 1), RowsDrawn.OUTSIDE);
        c.due("mend: UNKNOWN, OUTSIDE, STATE", x.mend(9, 0, 0, 4), RowsDrawn.UNKNOWN);
        c.due("mend: OUTSIDE, STATE", x.mend(9, 0, 1, 4), RowsDrawn.OUTSIDE);
        c.due("mend: STATE", x.mend(9, 0, 1, 0), RowsDrawn.STATE);
        c.due("joined: UNKNOWN, OUTSIDE", x.joined(0, 0, 0, 0, 8, 1), RowsDrawn.UNKNOWN);
        x.blank();
        Checks.write(x, "a");
        c.due("page: FULL", x.page(), RowsDrawn.FULL);
        c.due("rule: FULL", x.rule(5), RowsDrawn.FULL);
    }

    @Sentence(promise = 27, inTerms = true, says = "they change nothing.")
    static void refusalsChangeNothing(Checks c) {
        RowsDrawn x = full("a");
        Refusals r = new Refusals();
        r.add(RowsDrawn.OUTSIDE, "letters(127)", () -> x.letters(127));
        r.add(RowsDrawn.OUTSIDE, "letters of two and 127", () -> x.letters(0x7F6161L));
        r.add(RowsDrawn.OUTSIDE, "letters behind a 0", () -> x.letters(0x610061L));
        r.add(RowsDrawn.OUTSIDE, "fault(2)", () -> x.fault(2));
        r.add(RowsDrawn.FULL, "page()", x::page);
        r.add(RowsDrawn.OUTSIDE, "rule(6)", () -> x.rule(6));
        r.add(RowsDrawn.FULL, "rule(0)", () -> x.rule(0));
        r.add(RowsDrawn.UNKNOWN, "as(10, 0)", () -> x.as(10, 0));
        r.add(RowsDrawn.OUTSIDE, "as(0, 6)", () -> x.as(0, 6));
        r.add(RowsDrawn.NONE, "as(0, 1)", () -> x.as(0, 1));
        r.add(RowsDrawn.UNKNOWN, "box(8, 0, 0)", () -> x.box(8, 0, 0));
        r.add(RowsDrawn.OUTSIDE, "box(0, 0, 5)", () -> x.box(0, 0, 5));
        r.add(RowsDrawn.UNKNOWN, "gives(10, 0)", () -> x.gives(10, 0));
        r.add(RowsDrawn.UNKNOWN, "word(10, 0, 0)", () -> x.word(10, 0, 0));
        r.add(RowsDrawn.UNKNOWN, "within(0, 0, 2)", () -> x.within(0, 0, 2));
        r.add(RowsDrawn.UNKNOWN, "mark(8, 0, 1)", () -> x.mark(8, 0, 1));
        r.add(RowsDrawn.UNKNOWN, "mark(0, 2, 1)", () -> x.mark(0, 2, 1));
        r.add(RowsDrawn.OUTSIDE, "mark(0, 1, 3)", () -> x.mark(0, 1, 3));
        r.add(RowsDrawn.OUTSIDE, "mark(0, 1, -1)", () -> x.mark(0, 1, -1));
        r.add(RowsDrawn.UNKNOWN, "whole(8, true)", () -> x.whole(8, true));
        r.add(RowsDrawn.OUTSIDE, "fits(4)", () -> x.fits(4));
        r.add(RowsDrawn.OUTSIDE, "step(2, 0)", () -> x.step(2, 0));
        r.add(RowsDrawn.UNKNOWN, "leads(0, 2)", () -> x.leads(0, 2));
        r.add(RowsDrawn.OUTSIDE, "ask(3)", () -> x.ask(3));
        r.add(RowsDrawn.OUTSIDE, "law(4, 0, 0)", () -> x.law(4, 0, 0));
        r.add(RowsDrawn.FULL, "law(0, 0, 0)", () -> x.law(0, 0, 0));
        r.add(RowsDrawn.UNKNOWN, "holds(8, 0, 0)", () -> x.holds(8, 0, 0));
        r.add(RowsDrawn.UNKNOWN, "broken(0, 8)", () -> x.broken(0, 8));
        r.add(RowsDrawn.UNKNOWN, "mend(0, 0, 0, 0)", () -> x.mend(0, 0, 0, 0));
        r.add(RowsDrawn.OUTSIDE, "mend(0, 0, 1, 4)", () -> x.mend(0, 0, 1, 4));
        r.add(RowsDrawn.STATE, "mend(9, 0, 1, 0)", () -> x.mend(9, 0, 1, 0));
        r.add(RowsDrawn.UNKNOWN, "like(0, 8)", () -> x.like(0, 8));
        r.add(RowsDrawn.UNKNOWN, "nearest(8)", () -> x.nearest(8));
        r.add(RowsDrawn.UNKNOWN, "joined(10, 0, 0, 0, 0, 0)", () -> x.joined(10, 0, 0, 0, 0, 0));
        r.add(RowsDrawn.OUTSIDE, "joined(0, 0, 0, 0, 0, 1)", () -> x.joined(0, 0, 0, 0, 0, 1));
        r.add(RowsDrawn.UNKNOWN, "key(0, 0, 8, 0)", () -> x.key(0, 0, 8, 0));
        r.add(RowsDrawn.OUTSIDE, "count(7)", () -> x.count(7));
        r.run(c, x);
        RowsDrawn y = full("a(");
        Refusals states = new Refusals();
        states.add(RowsDrawn.STATE, "page() of a(", y::page);
        states.add(RowsDrawn.STATE, "rule(0) of a(", () -> y.rule(0));
        states.run(c, y);
        c.due("90 letters still fit", fill(y), 90);
        long before = y.digest();
        c.due("letters() of 91", y.letters('a'), RowsDrawn.FULL);
        c.due("digest() behind it", y.digest(), before);
    }

    private static int fill(RowsDrawn x) {
        Checks.write(x, "b".repeat(88));
        return x.count(3);
    }

    @Sentence(promise = 27, inTerms = true, says = "An object is used for at most 512 calls after it has been made; "
        + "what later calls answer is free.")
    static void calls512(Checks c) {
        RowsDrawn x = new RowsDrawn();
        for (int call = 1; call <= 510; call += 2) {
            x.letters('b');
            x.blank();
        }
        c.due("the 511th call", x.letters('b'), 1);
        c.due("the 512th call", x.digest(), digestOf(98, 0, 0, 0, 1, 0, 0, 0));
        // Later answers are free, but no call throws: NeverThrowsTest goes on far behind the 512th.
    }

    @Sentence(promise = 27, inTerms = true, says = "An object is used for at most 512 calls after it has been made;")
    static void calls512OfTheDearest(Checks c) {
        RowsDrawn x = new RowsDrawn();
        for (int p = 0; p < 8; p++) {
            x.letters(Checks.packed("a(bc(b))"));
            x.page();
        }
        x.letters('b');
        x.rule(0);
        long before = x.digest();
        // 19 calls so far, and 492 more. To the first b lead b, 0 and *b alone.
        int[] fitting = {3615, 3, 3612};
        for (int i = 0; i < 164; i++) {
            int as = (i + 2) % 3;
            x.mark(7, 1, as);
            c.due("fits(0) in round " + i, x.fits(0), fitting[as]);
            x.ask(2);
        }
        c.due("the 512th call", x.digest(), before);
    }

    // ---- promise 26

    @Sentence(promise = 26, says = "How many: 0 PAGES, 1 RULES, 2 LAWS, 3 letters of THE SHEET, 4 YES, 5 NO, "
        + "6 BOXES of all PAGES.")
    static void howManyOfEach(Checks c) {
        RowsDrawn x = new RowsDrawn();
        countsAre(c, "at first", x, 0, 0, 0, 0, 0, 0, 0);
        String page = "a(" + "b".repeat(23) + ")";
        for (int p = 0; p < 8; p++) {
            Checks.page(x, page);
        }
        countsAre(c, "pages", x, 8, 0, 0, 0, 0, 0, 192);
        for (int r = 0; r < 10; r++) {
            Checks.rule(x, 0, "a");
        }
        for (int i = 0; i < 8; i++) {
            x.law(0, 0, 0);
        }
        Checks.write(x, "c".repeat(90));
        countsAre(c, "all that there can be", x, 8, 10, 8, 90, 0, 0, 192);
        for (int p = 0; p < 8; p++) {
            for (int b = 0; b < 24; b++) {
                x.mark(p, b, b == 0 ? 2 : 1);
            }
        }
        countsAre(c, "all marked", x, 8, 10, 8, 90, 184, 8, 192);
    }

    private static void countsAre(Checks c, String when, RowsDrawn x, int... want) {
        for (int what = 0; what <= 6; what++) {
            c.due("count(" + what + "), " + when, x.count(what), want[what]);
        }
    }

    @Sentence(promise = 26, says = "OUTSIDE.")
    static void countOfOther(Checks c) {
        c.refuses("count(what)", 0, 6, new RowsDrawn()::count, RowsDrawn.OUTSIDE);
        c.refuses("count(what)", 0, 6, full("a")::count, RowsDrawn.OUTSIDE);
    }

    // ---- promise 27

    @Sentence(promise = 27, says = "h is 331, then for each of these numbers, in order, 31 times h, and it "
        + "(as longs, wrapping):")
    static void digestWraps(Checks c) {
        c.due("of a new object", new RowsDrawn().digest(), 331L * 31 * 31 * 31 * 31 * 31 * 31 * 31);
        RowsDrawn x = new RowsDrawn();
        Checks.write(x, "~".repeat(90));
        long h = 331;
        for (int i = 0; i < 90; i++) {
            h = 31 * h + 126;
        }
        for (int n : new int[] {0, 0, 0, 90, 0, 0, 0}) {
            h = 31 * h + n;
        }
        c.due("of 90 letters, far beyond a long", x.digest(), h);
    }

    @Sentence(promise = 27, says = "of each PAGE of each BOX KIND, WORD, PARENT, 1 if it is YES, 2 if NO, else 0;")
    static void digestOfBoxes(Checks c) {
        RowsDrawn x = Checks.with("e99(b0)");
        c.due("no marks", x.digest(), digestOf(4, 99, -1, 0, 1, 0, 0, 0, 0, 4, 1, 0, 0, 0, 0, 0, 2));
        x.mark(0, 0, 2);
        x.mark(0, 1, 1);
        c.due("both marked", x.digest(), digestOf(4, 99, -1, 2, 1, 0, 0, 1, 0, 4, 1, 0, 0, 0, 1, 1, 2));
        Checks.page(x, "c");
        c.due("two pages", x.digest(), digestOf(4, 99, -1, 2, 1, 0, 0, 1, 0, 4, 2, -1, -1, 0, 0, 0, 2, 0, 0, 0, 1, 1, 3));
    }

    @Sentence(promise = 27, says = "WHOLE (1, 0);")
    static void digestOfWhole(Checks c) {
        RowsDrawn x = Checks.with("a");
        c.due("not WHOLE", x.digest(), digestOf(0, -1, -1, 0, 0, 2, 1, 0, 0, 0, 0, 0, 1));
        x.whole(0, true);
        c.due("WHOLE", x.digest(), digestOf(0, -1, -1, 0, 1, 2, 1, 0, 0, 0, 0, 0, 1));
    }

    @Sentence(promise = 27, says = "LIKE of it and PAGE 0;")
    static void digestOfLike(Checks c) {
        RowsDrawn x = Checks.with("a", "a1", "b");
        c.due("2, 1 and 0", x.digest(), digestOf(0, -1, -1, 0, 0, 2, 0, 1, -1, 0, 0, 1, 1, -1, -1, 0, 0, 0,
            3, 0, 0, 0, 0, 0, 3));
    }

    @Sentence(promise = 27, says = "of each RULE SORT, what it GIVES on each PAGE, BROKEN there;")
    static void digestOfRules(Checks c) {
        RowsDrawn bare = new RowsDrawn();
        Checks.rule(bare, 5, "a");
        c.due("rules without pages", bare.digest(), digestOf(5, 0, 1, 0, 0, 0, 0, 0));
        RowsDrawn x = Checks.with("a(b)", "a");
        Checks.rule(x, 2, "b");
        Checks.rule(x, 1, "b");
        x.law(0, 2, 2);
        c.due("two rules on two pages", x.digest(), digestOf(0, -1, -1, 0, 1, -1, 0, 0, 0, 4, 0, -1, -1, 0, 0, 2,
            2, 2, 2, 0, 1, 1, 0, 1, 0, 1, 0, 2, 2, 2, 2, 1, 0, 0, 0, 3));
    }

    @Sentence(promise = 27, says = "of each LAW FORM, x, y;")
    static void digestOfLaws(Checks c) {
        RowsDrawn x = new RowsDrawn();
        x.law(3, 99, 0);
        x.law(1, 5, 7);
        c.due("two laws", x.digest(), digestOf(3, 99, 0, 1, 5, 7, 0, 0, 2, 0, 0, 0, 0));
    }

    @Sentence(promise = 27, says = "letters of THE SHEET;")
    static void digestOfLetters(Checks c) {
        RowsDrawn x = new RowsDrawn();
        x.letters(0x017E61L);
        c.due("a, ~ and code 1", x.digest(), digestOf(97, 126, 1, 0, 0, 0, 3, 0, 0, 0));
    }

    @Sentence(promise = 27, says = "what count() tells for 0 to 6.")
    static void digestOfCounts(Checks c) {
        c.due("all 0", new RowsDrawn().digest(), digestOf(0, 0, 0, 0, 0, 0, 0));
        RowsDrawn x = Checks.with("a");
        x.law(2, 0, 0);
        x.law(2, 0, 0);
        x.mark(0, 0, 1);
        Checks.write(x, "bcd");
        c.due("a page, two laws, three letters, a YES", x.digest(),
            digestOf(0, -1, -1, 1, 0, 2, 2, 0, 0, 2, 0, 0, 98, 99, 100, 1, 0, 2, 3, 1, 0, 1));
    }
}
