import java.util.Random;

/** Random runs from fixed seeds: the program beside the model, answer by answer. */
public final class ModelTest {
    private static final Checks c = new Checks();
    private static final String[] STEPS = "a b c d e 0 1 2 3 4 7 *a *b *c *d *e >".split(" ");
    private static final int[] ODD = {-1, 5, 8, 10, 24, 40, 70, Integer.MIN_VALUE, Integer.MAX_VALUE};

    private final Random random;
    private final int seed;
    private final int kinds;
    private final int words;
    private final RowsDrawn x = new RowsDrawn();
    private final Model m = new Model();
    private int calls;

    private ModelTest(int seed) {
        this.seed = seed;
        this.random = new Random(seed);
        this.kinds = 1 + random.nextInt(5);
        this.words = random.nextBoolean() ? 4 : 100;
    }

    public static void main(String[] args) {
        int runs = args.length > 0 ? Integer.parseInt(args[0]) : 150;
        for (int seed = 1; seed <= runs; seed++) {
            new ModelTest(seed).run();
        }
        c.end("ModelTest");
    }

    private void run() {
        int pages = 1 + random.nextInt(random.nextInt(5) == 0 ? 9 : 4);
        String last = pageText();
        for (int i = 0; i < pages; i++) {
            write(last);
            due("fault(0)", x.fault(0), m.fault(0));
            due("page()", x.page(), m.page());
            last = random.nextBoolean() ? changed(last) : pageText();
        }
        for (int i = 0; i < 2 + random.nextInt(10); i++) {
            write(ruleText());
            due("fault(1)", x.fault(1), m.fault(1));
            int sort = random.nextInt(6);
            due("rule", x.rule(sort), m.rule(sort));
        }
        for (int i = 0; i < random.nextInt(6); i++) {
            call(12);
        }
        if (random.nextInt(3) > 0) {
            markBySentence();
        }
        while (calls < 500) {
            call(random.nextInt(26));
        }
    }

    private void due(String call, long got, long want) {
        calls++;
        c.due("seed " + seed + ", call " + calls + ": " + call, got, want);
    }

    private void write(String text) {
        for (int i = 0; i < text.length(); i += 8) {
            long w = Checks.packed(text.substring(i, Math.min(text.length(), i + 8)));
            due("letters(" + w + ")", x.letters(w), m.letters(w));
        }
    }

    private String pageText() {
        StringBuilder text = new StringBuilder();
        int[] left = {1 + random.nextInt(24)};
        addBox(text, left, 0);
        return text.length() > 90 ? pageText() : text.toString();
    }

    private void addBox(StringBuilder text, int[] left, int depth) {
        left[0]--;
        text.append((char) ('a' + random.nextInt(kinds)));
        if (random.nextInt(3) > 0 && depth > 0) {
            int word = random.nextInt(words);
            text.append(word < 10 && random.nextInt(9) == 0 ? "0" : "").append(word);
        }
        if (left[0] > 0 && (depth == 0 || random.nextInt(3) == 0)) {
            text.append('(');
            int inner = 1 + random.nextInt(depth == 0 ? 10 : 4);
            for (int i = 0; i < inner && (i == 0 || left[0] > 0); i++) {
                addBox(text, left, depth + 1);
            }
            text.append(')');
        }
    }

    /** The text with some letters changed for others of the same sort, so that pages come that are like one another. */
    private String changed(String text) {
        char[] letters = text.toCharArray();
        for (int i = 0; i < 1 + random.nextInt(4); i++) {
            int at = random.nextInt(letters.length);
            if (Character.isDigit(letters[at])) {
                letters[at] = (char) ('0' + random.nextInt(10));
            } else if (letters[at] >= 'a') {
                letters[at] = (char) ('a' + random.nextInt(kinds));
            } else if (random.nextInt(20) == 0) {
                letters[at] = ')';
            }
        }
        return new String(letters);
    }

    private String ruleText() {
        StringBuilder text = new StringBuilder();
        int steps = 1 + random.nextInt(random.nextInt(6) == 0 ? 7 : 3);
        for (int i = 0; i < steps; i++) {
            text.append(i == 0 ? "" : "/").append(STEPS[random.nextInt(STEPS.length)]);
        }
        return text.toString();
    }

    /** Marks some of what one sentence leads to, so that often some sentence fits. */
    private void markBySentence() {
        RowsDrawn y = x;
        if (y.count(1) == 0 || y.count(0) == 0) {
            return;
        }
        int rule = random.nextInt(y.count(1));
        for (int p = 0; p < y.count(0); p++) {
            int set = y.gives(rule, p);
            boolean all = random.nextInt(4) == 0;
            for (int b = 0; b < 24; b++) {
                if ((set >> b & 1) != 0 && (all || random.nextInt(3) == 0)) {
                    due("mark", x.mark(p, b, 1), m.mark(p, b, 1));
                } else if ((set >> b & 1) == 0 && random.nextInt(9) == 0) {
                    due("mark", x.mark(p, b, 2), m.mark(p, b, 2));
                }
            }
            if (all) {
                due("whole", x.whole(p, true), m.whole(p, true));
            }
            if (random.nextInt(3) == 0) {
                break;
            }
        }
    }

    private int pick(int below) {
        return random.nextInt(25) == 0 ? ODD[random.nextInt(ODD.length)] : random.nextInt(Math.max(1, below));
    }

    private int pickPage() {
        return pick(m.count(0));
    }

    private int pickRule() {
        return pick(m.count(1));
    }

    private int pickBox(int page) {
        int boxes = 0;
        while (m.box(page, boxes, 0) >= 0) {
            boxes++;
        }
        return pick(boxes);
    }

    private void call(int which) {
        switch (which) {
            case 0: case 1: case 2: case 3: case 4: case 5: case 6: case 7: case 8:
                callOnPagesAndRules(which);
                break;
            case 9: case 10: case 11: case 12: case 13: case 14: case 15: case 16:
                callOnMarksAndLaws(which);
                break;
            default:
                callOnOthers(which);
        }
    }

    private void callOnPagesAndRules(int which) {
        int p = pickPage();
        int r = pickRule();
        int b = pickBox(p);
        int n = pick(6);
        switch (which) {
            case 0:
                someLetters();
                break;
            case 1:
                due("blank()", x.blank(), m.blank());
                break;
            case 2:
                due("fault(" + n % 2 + ")", x.fault(n % 2), m.fault(n % 2));
                break;
            case 3:
                due("page()", x.page(), m.page());
                due("rule(" + n + ")", x.rule(n), m.rule(n));
                break;
            case 4:
                due("as(" + r + ", " + n + ")", x.as(r, n), m.as(r, n));
                break;
            case 5:
                due("box(" + p + ", " + b + ", " + n + ")", x.box(p, b, n), m.box(p, b, n));
                break;
            case 6:
                due("gives(" + r + ", " + p + ")", x.gives(r, p), m.gives(r, p));
                break;
            case 7:
                due("word(" + r + ", " + p + ", " + n + ")", x.word(r, p, n), m.word(r, p, n));
                break;
            default:
                due("within(" + r + ", " + p + ", " + b + ")", x.within(r, p, b), m.within(r, p, b));
        }
    }

    private void someLetters() {
        String text = random.nextBoolean() ? pageText() : ruleText();
        if (random.nextInt(3) == 0) {
            text = changed(text);
        }
        if (random.nextInt(9) == 0) {
            long w = random.nextLong() >>> random.nextInt(64);
            due("letters(" + w + ")", x.letters(w), m.letters(w));
        }
        write(text);
        due("fault(0)", x.fault(0), m.fault(0));
        due("fault(1)", x.fault(1), m.fault(1));
    }

    private void callOnMarksAndLaws(int which) {
        int p = pickPage();
        int b = pickBox(p);
        int n = pick(4);
        int i = pick(4);
        switch (which) {
            case 9:
                due("mark(" + p + ", " + b + ", " + n + ")", x.mark(p, b, n), m.mark(p, b, n));
                break;
            case 10:
                due("whole(" + p + ", " + (n == 0) + ")", x.whole(p, n == 0), m.whole(p, n == 0));
                break;
            case 11:
                due("fits(" + n + ")", x.fits(n), m.fits(n));
                due("step(" + i + ", " + n + ")", x.step(i, n), m.step(i, n));
                due("step(1, " + n + ")", x.step(1, n), m.step(1, n));
                break;
            case 12: {
                int lowest = n == 3 ? pick(100) : pick(words);
                int range = lowest + pick(words);
                due("law(" + n + ", " + lowest + ", " + range + ")", x.law(n, lowest, range), m.law(n, lowest, range));
                break;
            }
            case 13:
                // Unmarks often: with random marks alone soon nothing fits any more.
                for (int box = 0; box < 24; box++) {
                    due("mark(" + p + ", " + box + ", 0)", x.mark(p, box, 0), m.mark(p, box, 0));
                }
                due("whole(" + p + ", false)", x.whole(p, false), m.whole(p, false));
                break;
            case 14:
                due("fits(0)", x.fits(0), m.fits(0));
                due("fits(" + n + ")", x.fits(n), m.fits(n));
                break;
            case 15:
                due("leads(" + p + ", " + b + ")", x.leads(p, b), m.leads(p, b));
                break;
            default:
                if (m.fits(0) < 800) {
                    due("ask(" + n + ")", x.ask(n), m.ask(n));
                }
        }
    }

    private void callOnOthers(int which) {
        int p = pickPage();
        int q = pickPage();
        int r = pickRule();
        int k = pickRule();
        int l = pickRule();
        int n = pick(13);
        switch (which) {
            case 17:
                due("holds(" + n % 8 + ", " + r + ", " + p + ")", x.holds(n % 8, r, p), m.holds(n % 8, r, p));
                break;
            case 18:
                due("broken(" + r + ", " + p + ")", x.broken(r, p), m.broken(r, p));
                break;
            case 19: case 20:
                due("mend(" + r + ", " + p + ", " + q + ", " + n + ")", x.mend(r, p, q, n), m.mend(r, p, q, n));
                break;
            case 21:
                due("like(" + p + ", " + q + ")", x.like(p, q), m.like(p, q));
                due("nearest(" + p + ")", x.nearest(p), m.nearest(p));
                break;
            case 22: case 23: {
                int what = random.nextInt(4) == 0 ? pick(72) : random.nextInt(3) * 30 + 10 + pick(3);
                what = what > 72 ? 0 : what;
                due("joined(" + r + ", " + k + ", " + l + ", " + p + ", " + q + ", " + what + ")",
                    x.joined(r, k, l, p, q, what), m.joined(r, k, l, p, q, what));
                due("key(" + r + ", " + k + ", " + p + ", " + n + ")", x.key(r, k, p, n), m.key(r, k, p, n));
                break;
            }
            case 24:
                due("count(" + n % 8 + ")", x.count(n % 8), m.count(n % 8));
                break;
            default:
                due("digest()", x.digest(), m.digest());
                if (random.nextInt(6) == 0) {
                    markBySentence();
                }
        }
    }
}
