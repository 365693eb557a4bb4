/** Promises 22 to 25: how like pages are, and rows joined. */
public final class PagesBesideTest {
    private static final Checks c = new Checks();
    private static final int MIN = Integer.MIN_VALUE, MAX = Integer.MAX_VALUE;

    public static void main(String[] args) {
        like();
        nearest();
        joined();
        joinedEdges();
        key();
        c.end("PagesBesideTest");
    }

    private static void likeIs(String one, String other, int want) {
        RowsDrawn x = new RowsDrawn();
        Checks.page(x, one);
        Checks.page(x, other);
        c.due("22 " + one + " and " + other, x.like(0, 1), want);
        c.due("22 " + other + " and " + one, x.like(1, 0), want);
        c.due("22 with itself", x.like(0, 0), 2 * x.count(6) - 2 * boxesOf(other));
    }

    private static int boxesOf(String text) {
        return text.replaceAll("[^a-e]", "").length();
    }

    private static void like() {
        likeIs("a", "a", 2);
        likeIs("a", "b", 0);
        likeIs("a1", "a1", 2);
        likeIs("a1", "a", 1);
        likeIs("a1", "a2", 1);
        likeIs("a0", "a", 1);
        likeIs("a(b)", "a(b)", 4);
        likeIs("a(b)", "c(b)", 0);
        likeIs("a(b)", "a(c)", 2);
        likeIs("a(b)", "a", 2);
        likeIs("a(bc)", "a(cb)", 4);
        likeIs("a(bcd)", "a(bd)", 6);
        likeIs("a(bcb)", "a(b1b)", 5);
        likeIs("a(b1b2)", "a(b2b1)", 4);
        likeIs("a(b1b2b3)", "a(b2b3)", 6);
        likeIs("a(b1)", "a(b2b3b1)", 4);
        likeIs("a(b(c1d2))", "a(b(d2)b(c1))", 6);
        // One pair of deep boxes outweighs two crossing light ones.
        likeIs("a(bcd(eee))", "a(d(eee)bc)", 10);
        likeIs("a(b(b(b)))", "a(b(b))", 6);
        likeIs("a(b(c))", "a(c)", 2);
        likeIs("a(" + "b".repeat(23) + ")", "a(" + "b".repeat(23) + ")", 48);
        likeIs("a(".repeat(23) + "a" + ")".repeat(23), "a(".repeat(22) + "a" + ")".repeat(22), 46);
        RowsDrawn x = new RowsDrawn();
        c.due("22 no page", x.like(0, 0), RowsDrawn.UNKNOWN);
        Checks.page(x, "a");
        c.due("22 second", x.like(0, 1), RowsDrawn.UNKNOWN);
        c.due("22 first", x.like(-1, 0), RowsDrawn.UNKNOWN);
        c.due("22 far", x.like(MAX, MIN), RowsDrawn.UNKNOWN);
    }

    private static void nearest() {
        RowsDrawn x = new RowsDrawn();
        c.due("23 no page", x.nearest(0), RowsDrawn.UNKNOWN);
        Checks.page(x, "a(bc)");
        c.due("23 no other", x.nearest(0), RowsDrawn.NONE);
        Checks.page(x, "d");
        c.due("23 the only other, though not like", x.nearest(0), 1);
        c.due("23 the other way", x.nearest(1), 0);
        Checks.page(x, "e");
        c.due("23 of like ones the least", x.nearest(2), 0);
        Checks.page(x, "a(b)");
        Checks.page(x, "a(c)");
        c.due("23 more like", x.nearest(0), 3);
        Checks.page(x, "a(bc)");
        c.due("23 the same", x.nearest(0), 5);
        c.due("23 back", x.nearest(5), 0);
        c.due("23 not itself", x.nearest(3), 0);
        c.due("23 behind", x.nearest(6), RowsDrawn.UNKNOWN);
        c.due("23 below", x.nearest(-1), RowsDrawn.UNKNOWN);
    }

    private static RowsDrawn tables() {
        RowsDrawn x = new RowsDrawn();
        // Rows: key (c), value (d). On page 0: 1 10, 2 -, - 30, 1 40; on page 1: 1 50, 3 60, 2 70, 1 -.
        Checks.page(x, "a(b(c1d10)b(c2)b(cd30)b(c1d40))");
        Checks.page(x, "a(b(c1d50)b(c3d60)b(d70c2)b(c1d)b(e))");
        Checks.rule(x, 1, "b");
        Checks.rule(x, 2, "c");
        Checks.rule(x, 2, "d");
        return x;
    }

    private static void joined() {
        RowsDrawn x = tables();
        c.due("24 how many", x.joined(0, 1, 2, 0, 1, 0), 5);
        int[] left = {10, 10, -1, 40, 40, -2};
        int[] right = {50, -1, 70, 50, -1, -2};
        for (int i = 0; i < left.length; i++) {
            c.due("24 left " + i, x.joined(0, 1, 2, 0, 1, 10 + i), left[i]);
            c.due("24 right " + i, x.joined(0, 1, 2, 0, 1, 40 + i), right[i]);
        }
        c.due("24 the other way", x.joined(0, 1, 2, 1, 0, 0), 5);
        c.due("24 first left", x.joined(0, 1, 2, 1, 0, 11), 50);
        c.due("24 first right", x.joined(0, 1, 2, 1, 0, 41), 40);
        c.due("24 with itself", x.joined(0, 1, 2, 0, 0, 0), 5);
        c.due("24 by other cells", x.joined(0, 2, 1, 0, 0, 0), 3);
        c.due("24 what 39", x.joined(0, 1, 2, 0, 1, 39), -2);
        c.due("24 what 69", x.joined(0, 1, 2, 0, 1, 69), -2);
        for (int what : new int[] {-1, 1, 9, 70, MIN, MAX}) {
            c.due("24 what " + what, x.joined(0, 1, 2, 0, 1, what), RowsDrawn.OUTSIDE);
            c.due("24 unknown ahead of outside", x.joined(0, 1, 2, 0, 2, what), RowsDrawn.UNKNOWN);
        }
        c.due("24 row", x.joined(3, 1, 2, 0, 1, 0), RowsDrawn.UNKNOWN);
        c.due("24 k", x.joined(0, -1, 2, 0, 1, 0), RowsDrawn.UNKNOWN);
        c.due("24 l", x.joined(0, 1, MAX, 0, 1, 0), RowsDrawn.UNKNOWN);
        c.due("24 p", x.joined(0, 1, 2, 2, 1, 0), RowsDrawn.UNKNOWN);
        c.due("24 q", x.joined(0, 1, 2, 0, MIN, 0), RowsDrawn.UNKNOWN);
    }

    private static void joinedEdges() {
        RowsDrawn x = new RowsDrawn();
        Checks.page(x, "a(b1b1b1b1b1b1b1b1b1b1b1b1b1b1b1b1b1b1b1b1b1b1b1)");
        Checks.page(x, "a(b(c0d0)b(c0d7))");
        Checks.rule(x, 0, "b");
        Checks.rule(x, 0, ">");
        Checks.rule(x, 1, "c");
        Checks.rule(x, 0, "*c");
        Checks.rule(x, 0, "d");
        // Every row but the last has the next one's word as its key.
        c.due("24 22 times 22", x.joined(0, 1, 1, 0, 0, 0), 484);
        c.due("24 pair 29", x.joined(0, 1, 1, 0, 0, 39), 1);
        c.due("24 pair 29 on q", x.joined(0, 1, 1, 0, 0, 69), 1);
        c.due("24 cells that are leaves are no ROWS", x.joined(0, 2, 4, 1, 1, 0), 0);
        c.due("24 no first pair", x.joined(0, 2, 4, 1, 1, 10), -2);
        c.due("24 no first pair on q", x.joined(0, 2, 4, 1, 1, 40), -2);
        c.due("24 key 0 is a key", x.joined(0, 3, 4, 1, 1, 0), 4);
        c.due("24 value 0", x.joined(0, 3, 4, 1, 1, 10), 0);
        c.due("24 value on q", x.joined(0, 3, 4, 1, 1, 41), 7);
    }

    private static void key() {
        RowsDrawn x = tables();
        int[] keys = {1, 2, -1, 1, -2};
        for (int i = 0; i < keys.length; i++) {
            c.due("25 row " + i, x.key(0, 1, 0, i), keys[i]);
        }
        int[] others = {1, 3, 2, 1, -1, -2};
        for (int i = 0; i < others.length; i++) {
            c.due("25 row " + i + " of page 1", x.key(0, 1, 1, i), others[i]);
        }
        c.due("25 by d", x.key(0, 2, 1, 2), 70);
        c.due("25 below", x.key(0, 1, 0, -1), -2);
        c.due("25 far", x.key(0, 1, 0, MAX), -2);
        c.due("25 far below", x.key(0, 1, 0, MIN), -2);
        c.due("25 row", x.key(3, 1, 0, 0), RowsDrawn.UNKNOWN);
        c.due("25 k", x.key(0, 3, 0, 0), RowsDrawn.UNKNOWN);
        c.due("25 page", x.key(0, 1, 2, 0), RowsDrawn.UNKNOWN);
        c.due("25 page below", x.key(0, 1, -1, 0), RowsDrawn.UNKNOWN);
    }
}
