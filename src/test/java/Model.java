import java.util.ArrayList;
import java.util.Arrays;
import java.util.Collections;
import java.util.HashMap;
import java.util.HashSet;
import java.util.LinkedHashMap;
import java.util.List;
import java.util.Map;
import java.util.Set;
import java.util.TreeMap;
import java.util.TreeSet;
import java.util.regex.Pattern;

/**
 * The document once more, told as plainly as can be and by other means than the program:
 * boxes as objects, sets as sets, texts as texts. Slow on purpose.
 */
final class Model {
    static final int NONE = -1, UNKNOWN = -101, OUTSIDE = -102, STATE = -103, FULL = -104;

    static final class Box implements Comparable<Box> {
        int number;
        char kind;
        Integer word;
        Box parent;
        final List<Box> inner = new ArrayList<>();
        int mark;

        @Override
        public int compareTo(Box other) {
            return Integer.compare(number, other.number);
        }

        void gather(List<Box> all) {
            for (Box b : inner) {
                all.add(b);
                b.gather(all);
            }
        }
    }

    static final class Sheaf {
        final List<Box> boxes = new ArrayList<>();
        boolean whole;
        final Map<String, TreeSet<Box>> led = new HashMap<>();

        Box root() {
            return boxes.get(0);
        }

        boolean unmarked() {
            return !whole && boxes.stream().allMatch(b -> b.mark == 0);
        }
    }

    static final class RuleText {
        String text;
        int sort;
    }

    private String sheet = "";
    private final List<Sheaf> pages = new ArrayList<>();
    private final List<RuleText> rules = new ArrayList<>();
    private final List<int[]> laws = new ArrayList<>();
    private static final List<String> SENTENCES = allSentences();
    private List<String> fitting;

    private static List<String> tongue() {
        List<String> steps = new ArrayList<>();
        for (String s : "a b c d e 0 1 2 3 *a *b *c *d *e >".split(" ")) {
            steps.add(s);
        }
        return steps;
    }

    private static List<String> allSentences() {
        List<String> all = new ArrayList<>(tongue());
        List<String> last = tongue();
        for (int n = 2; n <= 3; n++) {
            List<String> longer = new ArrayList<>();
            for (String s : last) {
                for (String t : tongue()) {
                    longer.add(s + "/" + t);
                }
            }
            all.addAll(longer);
            last = longer;
        }
        return all;
    }

    // ---- reading

    private static final class Cursor {
        final String text;
        int at;
        final List<Box> boxes = new ArrayList<>();

        Cursor(String text) {
            this.text = text;
        }

        char peek() {
            return at < text.length() ? text.charAt(at) : 0;
        }

        /** Reads one BOX; null if there is none. */
        Box readBox(Box parent) {
            if (peek() < 'a' || peek() > 'e') {
                return null;
            }
            Box b = new Box();
            b.kind = text.charAt(at++);
            b.parent = parent;
            b.number = boxes.size();
            boxes.add(b);
            String digits = "";
            while (digits.length() < 2 && Character.isDigit(peek())) {
                digits += text.charAt(at++);
            }
            b.word = digits.isEmpty() ? null : Integer.valueOf(digits);
            if (peek() == '(') {
                at++;
                do {
                    Box in = readBox(b);
                    if (in == null) {
                        return null;
                    }
                    b.inner.add(in);
                } while (peek() != ')');
                at++;
            }
            return b;
        }
    }

    private static List<Box> readPage(String text) {
        Cursor c = new Cursor(text);
        Box root = c.readBox(null);
        return root == null || c.at != text.length() || c.boxes.size() > 24 ? null : c.boxes;
    }

    private static final Pattern RULE = Pattern.compile("([a-e]|[0-9]|\\*[a-e]|>)(/([a-e]|[0-9]|\\*[a-e]|>)){0,5}");

    private static boolean isText(int sort, String text) {
        return sort == 0 ? readPage(text) != null : RULE.matcher(text).matches();
    }

    /** Whether some text of the sort begins so: a box and closings are enough to end any that does. */
    private static boolean begins(int sort, String text) {
        for (String more : new String[] {"", "a"}) {
            for (int close = 0; close <= 24; close++) {
                if (isText(sort, text + more + ")".repeat(close))) {
                    return true;
                }
            }
        }
        return false;
    }

    int letters(long w) {
        StringBuilder more = new StringBuilder();
        long rest = w;
        while ((rest & 255) != 0) {
            if ((rest & 255) > 126) {
                return OUTSIDE;
            }
            more.append((char) (rest & 255));
            rest >>>= 8;
        }
        if (rest != 0) {
            return OUTSIDE;
        }
        if (sheet.length() + more.length() > 90) {
            return FULL;
        }
        sheet += more;
        return sheet.length();
    }

    int blank() {
        int had = sheet.length();
        sheet = "";
        return had;
    }

    int fault(int sort) {
        if (sort != 0 && sort != 1) {
            return OUTSIDE;
        }
        for (int i = 0; i < sheet.length(); i++) {
            if (!begins(sort, sheet.substring(0, i + 1))) {
                return i;
            }
        }
        return sheet.length();
    }

    int page() {
        List<Box> boxes = readPage(sheet);
        if (boxes == null) {
            return STATE;
        }
        if (pages.size() == 8) {
            return FULL;
        }
        Sheaf p = new Sheaf();
        p.boxes.addAll(boxes);
        pages.add(p);
        sheet = "";
        fitting = null;
        return pages.size() - 1;
    }

    int rule(int sort) {
        if (sort < 0 || sort > 5) {
            return OUTSIDE;
        }
        if (!isText(1, sheet)) {
            return STATE;
        }
        if (rules.size() == 10) {
            return FULL;
        }
        RuleText r = new RuleText();
        r.text = sheet;
        r.sort = sort;
        rules.add(r);
        sheet = "";
        return rules.size() - 1;
    }

    private boolean noPage(int page) {
        return page < 0 || page >= pages.size();
    }

    private boolean noRule(int rule) {
        return rule < 0 || rule >= rules.size();
    }

    private boolean noBox(int page, int box) {
        return noPage(page) || box < 0 || box >= pages.get(page).boxes.size();
    }

    int as(int rule, int sort) {
        if (noRule(rule)) {
            return UNKNOWN;
        }
        if (sort < 0 || sort > 5) {
            return OUTSIDE;
        }
        List<List<Integer>> are = List.of(List.of(0), List.of(0, 1), List.of(0, 2), List.of(0, 3),
            List.of(0, 1, 4), List.of(0, 1, 5));
        return are.get(rules.get(rule).sort).contains(sort) ? rule : NONE;
    }

    int box(int page, int box, int what) {
        if (noBox(page, box)) {
            return UNKNOWN;
        }
        Box b = pages.get(page).boxes.get(box);
        switch (what) {
            case 0: return b.kind - 'a';
            case 1: return b.word == null ? NONE : b.word;
            case 2: return b.parent == null ? NONE : b.parent.number;
            case 3: return b.inner.size();
            case 4: {
                int deep = 0;
                for (Box up = b.parent; up != null; up = up.parent) {
                    deep++;
                }
                return deep;
            }
            default: return OUTSIDE;
        }
    }

    // ---- leading and giving

    private static void leadOne(String step, Box from, Set<Box> to) {
        char c = step.charAt(0);
        if (c == '*') {
            List<Box> all = new ArrayList<>();
            from.gather(all);
            for (Box b : all) {
                if (b.kind == step.charAt(1)) {
                    to.add(b);
                }
            }
        } else if (c == '>') {
            if (from.parent != null) {
                int place = from.parent.inner.indexOf(from);
                if (place + 1 < from.parent.inner.size()) {
                    to.add(from.parent.inner.get(place + 1));
                }
            }
        } else if (Character.isDigit(c)) {
            if (c - '0' < from.inner.size()) {
                to.add(from.inner.get(c - '0'));
            }
        } else {
            for (Box b : from.inner) {
                if (b.kind == c) {
                    to.add(b);
                }
            }
        }
    }

    private static TreeSet<Box> lead(String text, Box start) {
        TreeSet<Box> set = new TreeSet<>();
        set.add(start);
        for (String step : text.split("/")) {
            TreeSet<Box> next = new TreeSet<>();
            for (Box b : set) {
                leadOne(step, b, next);
            }
            set = next;
        }
        return set;
    }

    private static TreeSet<Box> sentenceLeads(Sheaf p, String sentence) {
        return p.led.computeIfAbsent(sentence, s -> lead(s, p.root()));
    }

    private static TreeSet<Box> given(RuleText r, Box start) {
        TreeSet<Box> all = lead(r.text, start);
        if (r.sort == 1 || r.sort == 4 || r.sort == 5) {
            all.removeIf(b -> b.inner.isEmpty());
        }
        if (r.sort == 3) {
            all.removeIf(b -> b.word == null);
        }
        if (r.sort == 5) {
            all.pollFirst();
        }
        if (r.sort == 2 || r.sort == 4) {
            while (all.size() > 1) {
                all.pollLast();
            }
        }
        return all;
    }

    private TreeSet<Box> given(int rule, int page) {
        return given(rules.get(rule), pages.get(page).root());
    }

    private static int bits(Set<Box> set) {
        int bits = 0;
        for (Box b : set) {
            bits += 1 << b.number;
        }
        return bits;
    }

    int gives(int rule, int page) {
        return noRule(rule) || noPage(page) ? UNKNOWN : bits(given(rule, page));
    }

    int word(int rule, int page, int i) {
        if (noRule(rule) || noPage(page)) {
            return UNKNOWN;
        }
        List<Box> all = new ArrayList<>(given(rule, page));
        if (i < 0 || i >= all.size()) {
            return -2;
        }
        return all.get(i).word == null ? NONE : all.get(i).word;
    }

    int within(int rule, int page, int box) {
        if (noRule(rule) || noBox(page, box)) {
            return UNKNOWN;
        }
        return bits(given(rules.get(rule), pages.get(page).boxes.get(box)));
    }

    // ---- marks

    int mark(int page, int box, int as) {
        if (noBox(page, box)) {
            return UNKNOWN;
        }
        if (as != 0 && as != 1 && as != 2) {
            return OUTSIDE;
        }
        Box b = pages.get(page).boxes.get(box);
        int was = b.mark;
        b.mark = as;
        fitting = null;
        return was;
    }

    int whole(int page, boolean is) {
        if (noPage(page)) {
            return UNKNOWN;
        }
        boolean was = pages.get(page).whole;
        pages.get(page).whole = is;
        fitting = null;
        return was ? 1 : 0;
    }

    private static boolean fitsOn(Sheaf p, String sentence) {
        TreeSet<Box> set = sentenceLeads(p, sentence);
        for (Box b : p.boxes) {
            if (b.mark == 1 && !set.contains(b) || b.mark == 2 && set.contains(b)) {
                return false;
            }
            if (p.whole && b.mark == 0 && set.contains(b)) {
                return false;
            }
        }
        return true;
    }

    private List<String> fitting() {
        if (fitting == null) {
            fitting = new ArrayList<>();
            for (String s : SENTENCES) {
                boolean all = true;
                for (Sheaf p : pages) {
                    all = all && fitsOn(p, s);
                }
                if (all) {
                    fitting.add(s);
                }
            }
        }
        return fitting;
    }

    private int even(String sentence) {
        Map<Integer, Integer> tally = new TreeMap<>();
        for (Sheaf p : pages) {
            int n = sentenceLeads(p, sentence).size();
            if (p.unmarked() && n > 0) {
                tally.merge(n, 1, Integer::sum);
            }
        }
        return tally.isEmpty() ? 0 : Collections.max(tally.values());
    }

    private String likeliest() {
        String best = null;
        for (String s : fitting()) {
            if (best == null || even(s) > even(best)) {
                best = s;
            }
        }
        return best;
    }

    private static int steps(String sentence) {
        return sentence.split("/").length;
    }

    int fits(int what) {
        if (what < 0 || what > 3) {
            return OUTSIDE;
        }
        if (pages.isEmpty()) {
            return STATE;
        }
        if (what == 0) {
            return fitting().size();
        }
        if (fitting().isEmpty()) {
            return NONE;
        }
        return what == 1 ? steps(fitting().get(0)) : what == 2 ? steps(likeliest()) : even(likeliest());
    }

    private static int stepAt(String sentence, int i) {
        String[] parts = sentence.split("/");
        return i < parts.length ? tongue().indexOf(parts[i]) : NONE;
    }

    int step(int which, int i) {
        if (which < 0 || which > 1 || i < 0 || i > 2) {
            return OUTSIDE;
        }
        if (pages.isEmpty()) {
            return STATE;
        }
        if (fitting().isEmpty()) {
            return NONE;
        }
        return stepAt(which == 0 ? fitting().get(0) : likeliest(), i);
    }

    private int leading(Sheaf p, Box b) {
        int n = 0;
        for (String s : fitting()) {
            if (sentenceLeads(p, s).contains(b)) {
                n++;
            }
        }
        return n;
    }

    int leads(int page, int box) {
        return noBox(page, box) ? UNKNOWN : leading(pages.get(page), pages.get(page).boxes.get(box));
    }

    int ask(int what) {
        if (what < 0 || what > 2) {
            return OUTSIDE;
        }
        int[] best = null;
        for (int p = 0; p < pages.size(); p++) {
            for (Box b : pages.get(p).boxes) {
                if (!pages.get(p).whole && b.mark == 0) {
                    int to = leading(pages.get(p), b);
                    int others = fitting().size() - to;
                    if (to > 0 && others > 0 && (best == null || Math.max(to, others) < best[2])) {
                        best = new int[] {p, b.number, Math.max(to, others)};
                    }
                }
            }
        }
        return best == null ? NONE : best[what];
    }

    // ---- laws, mends

    int law(int form, int x, int y) {
        boolean in = form >= 0 && form <= 3 && x >= 0 && x <= 99 && y >= 0 && y <= 99;
        if (!in || form <= 1 && y < x) {
            return OUTSIDE;
        }
        if (laws.size() == 8) {
            return FULL;
        }
        laws.add(new int[] {form, x, y});
        return laws.size() - 1;
    }

    private static List<Integer> words(Set<Box> set) {
        List<Integer> words = new ArrayList<>();
        for (Box b : set) {
            if (b.word != null) {
                words.add(b.word);
            }
        }
        return words;
    }

    private boolean kept(int[] law, int rule, int page) {
        TreeSet<Box> set = given(rule, page);
        List<Integer> words = words(set);
        switch (law[0]) {
            case 0: return set.size() >= law[1] && set.size() <= law[2];
            case 1: return words.stream().allMatch(w -> w >= law[1] && w <= law[2]);
            case 2: return new HashSet<>(words).size() == words.size();
            default: {
                if (page == 0) {
                    return true;
                }
                Set<Integer> before = new HashSet<>(words(given(rule, page - 1)));
                Set<Integer> again = new HashSet<>(before);
                again.retainAll(words);
                return before.isEmpty() || again.size() * 100 / (double) before.size() >= law[1];
            }
        }
    }

    int holds(int law, int rule, int page) {
        if (law < 0 || law >= laws.size() || noRule(rule) || noPage(page)) {
            return UNKNOWN;
        }
        return kept(laws.get(law), rule, page) ? 1 : 0;
    }

    int broken(int rule, int page) {
        if (noRule(rule) || noPage(page)) {
            return UNKNOWN;
        }
        if (given(rule, page).isEmpty()) {
            return 1;
        }
        int bits = 0;
        for (int i = 0; i < laws.size(); i++) {
            bits += kept(laws.get(i), rule, page) ? 0 : 2 << i;
        }
        return bits;
    }

    int mend(int rule, int old, int now, int what) {
        if (noRule(rule) || noPage(old) || noPage(now) || old == now) {
            return UNKNOWN;
        }
        if (!Arrays.asList(0, 1, 2, 3, 10, 11, 12).contains(what)) {
            return OUTSIDE;
        }
        Set<Integer> wanted = new HashSet<>(words(given(rule, old)));
        if (wanted.isEmpty()) {
            return STATE;
        }
        Sheaf p = pages.get(now);
        Map<String, Integer> likeness = new LinkedHashMap<>();
        for (String s : SENTENCES) {
            int n = 0;
            for (Integer w : new HashSet<>(words(sentenceLeads(p, s)))) {
                n += wanted.contains(w) ? 1 : -1;
            }
            likeness.put(s, n);
        }
        int most = Collections.max(likeness.values());
        List<String> best = new ArrayList<>();
        Set<Integer> sets = new HashSet<>();
        for (String s : SENTENCES) {
            if (likeness.get(s) == most) {
                best.add(s);
                sets.add(bits(sentenceLeads(p, s)));
            }
        }
        switch (what) {
            case 0: return most;
            case 1: return steps(best.get(0));
            case 2: return sets.size() == 1 ? 1 : 0;
            case 3: return bits(sentenceLeads(p, best.get(0)));
            default: return stepAt(best.get(0), what - 10);
        }
    }

    // ---- pages beside pages

    private static int alike(Box a, Box b) {
        if (a.kind != b.kind) {
            return 0;
        }
        boolean same = a.word == null ? b.word == null : a.word.equals(b.word);
        return 1 + (same ? 1 : 0) + alikeFrom(a.inner, 0, b.inner, 0, new HashMap<>());
    }

    private static int alikeFrom(List<Box> one, int i, List<Box> other, int j, Map<Integer, Integer> known) {
        if (i == one.size() || j == other.size()) {
            return 0;
        }
        Integer before = known.get(i * 100 + j);
        if (before != null) {
            return before;
        }
        int best = alikeFrom(one, i + 1, other, j, known);
        for (int k = j; k < other.size(); k++) {
            int with = alike(one.get(i), other.get(k)) + alikeFrom(one, i + 1, other, k + 1, known);
            best = Math.max(best, with);
        }
        known.put(i * 100 + j, best);
        return best;
    }

    int like(int p, int q) {
        return noPage(p) || noPage(q) ? UNKNOWN : alike(pages.get(p).root(), pages.get(q).root());
    }

    int nearest(int page) {
        if (noPage(page)) {
            return UNKNOWN;
        }
        int best = NONE;
        for (int q = pages.size() - 1; q >= 0; q--) {
            if (q != page && (best == NONE || like(page, q) >= like(page, best))) {
                best = q;
            }
        }
        return best;
    }

    private static int firstWord(RuleText cell, Box row) {
        TreeSet<Box> set = given(cell, row);
        return set.isEmpty() || set.first().word == null ? NONE : set.first().word;
    }

    int joined(int row, int k, int l, int p, int q, int what) {
        if (noRule(row) || noRule(k) || noRule(l) || noPage(p) || noPage(q)) {
            return UNKNOWN;
        }
        if (what != 0 && (what < 10 || what > 69)) {
            return OUTSIDE;
        }
        List<int[]> pairs = new ArrayList<>();
        for (Box a : given(row, p)) {
            for (Box b : given(row, q)) {
                int key = firstWord(rules.get(k), a);
                if (key != NONE && key == firstWord(rules.get(k), b)) {
                    pairs.add(new int[] {firstWord(rules.get(l), a), firstWord(rules.get(l), b)});
                }
            }
        }
        if (what == 0) {
            return pairs.size();
        }
        int side = what / 40;
        int i = what - (side == 0 ? 10 : 40);
        return i < pairs.size() ? pairs.get(i)[side] : -2;
    }

    int key(int row, int k, int page, int i) {
        if (noRule(row) || noRule(k) || noPage(page)) {
            return UNKNOWN;
        }
        List<Box> rows = new ArrayList<>(given(row, page));
        return i < 0 || i >= rows.size() ? -2 : firstWord(rules.get(k), rows.get(i));
    }

    // ---- what is told

    int count(int what) {
        if (what < 0 || what > 6) {
            return OUTSIDE;
        }
        int[] marks = new int[3];
        for (Sheaf p : pages) {
            for (Box b : p.boxes) {
                marks[b.mark]++;
            }
        }
        return new int[] {pages.size(), rules.size(), laws.size(), sheet.length(), marks[1], marks[2],
            marks[0] + marks[1] + marks[2]}[what];
    }

    long digest() {
        List<Integer> told = new ArrayList<>();
        for (int p = 0; p < pages.size(); p++) {
            for (Box b : pages.get(p).boxes) {
                told.addAll(List.of(b.kind - 'a', box(p, b.number, 1), box(p, b.number, 2), b.mark));
            }
            told.add(pages.get(p).whole ? 1 : 0);
            told.add(like(p, 0));
        }
        for (int r = 0; r < rules.size(); r++) {
            told.add(rules.get(r).sort);
            for (int p = 0; p < pages.size(); p++) {
                told.add(gives(r, p));
                told.add(broken(r, p));
            }
        }
        for (int[] law : laws) {
            told.addAll(List.of(law[0], law[1], law[2]));
        }
        for (char c : sheet.toCharArray()) {
            told.add((int) c);
        }
        for (int what = 0; what <= 6; what++) {
            told.add(count(what));
        }
        long h = 331;
        for (int n : told) {
            h = 31 * h + n;
        }
        return h;
    }
}
