import java.util.Arrays;

/**
 * Rows drawn out of pages. The words in capitals in the comments are the terms of the document.
 * Sets of BOXES are held as bits of an int everywhere: a PAGE has 24 BOXES at most.
 */
public final class RowsDrawn {
    public static final int NONE = -1, UNKNOWN = -101, OUTSIDE = -102, STATE = -103, FULL = -104;

    private static final int NO_SUCH = -2;
    private static final int MOST_LETTERS = 90, MOST_PAGES = 8, MOST_RULES = 10, MOST_LAWS = 8;
    private static final int MOST_BOXES = 24, MOST_STEPS = 6, KINDS = 5;
    private static final int MOST_PAIRS = MOST_BOXES * MOST_BOXES;
    private static final int ROOT = 1;

    private static final int LETTER_STEPS = 0, DIGIT_STEPS = 5, DEEP_STEPS = 9, NEXT_STEP = 14;
    // THE TONGUE ends behind NEXT_STEP; RULES alone know the digits 4 to 9, numbered behind it.
    private static final int TONGUE = 15, TONGUE_DIGITS = 4;
    private static final int SENTENCES = TONGUE + TONGUE * TONGUE + TONGUE * TONGUE * TONGUE;

    private static final int SORT_RULE = 0, SORT_ROW = 1, SORT_CELL = 2, SORT_WORDS = 3;
    private static final int SORT_FIRST = 4, SORT_REST = 5;

    private static final int MANY = 0, BETWEEN = 1, UNLIKE = 2, AS_BEFORE = 3;

    private final byte[] sheet = new byte[MOST_LETTERS];
    private int sheetSize;
    private final Page[] pages = new Page[MOST_PAGES];
    private int pageCount;
    private final Rule[] rules = new Rule[MOST_RULES];
    private int ruleCount;
    private final Law[] laws = new Law[MOST_LAWS];
    private int lawCount;
    private final PageReader pageReader = new PageReader();
    private final RuleReader ruleReader = new RuleReader();
    private final Fitting fitting = new Fitting();
    // False when pages or marks have changed since fitting was last worked out.
    private boolean fittingStands;
    private final Mending mending = new Mending();
    private final Pairing pairing = new Pairing();
    private final int[] otherKeys = new int[MOST_BOXES];

    public RowsDrawn() {
    }

    // ---- pages, rules

    public int letters(long w) {
        int more = 0;
        boolean ended = false;
        for (int i = 0; i < 8; i++) {
            int code = codeAt(w, i);
            if (code > 126 || (ended && code != 0)) {
                return OUTSIDE;
            }
            if (code == 0) {
                ended = true;
            } else {
                more++;
            }
        }
        if (sheetSize + more > MOST_LETTERS) {
            return FULL;
        }
        for (int i = 0; i < more; i++) {
            sheet[sheetSize] = (byte) codeAt(w, i);
            sheetSize++;
        }
        return sheetSize;
    }

    private static int codeAt(long w, int i) {
        return (int) ((w >>> (8 * i)) & 255L);
    }

    public int blank() {
        int had = sheetSize;
        sheetSize = 0;
        return had;
    }

    public int fault(int sort) {
        if (sort == 0) {
            return readSheet(pageReader);
        }
        if (sort == 1) {
            return readSheet(ruleReader);
        }
        return OUTSIDE;
    }

    private int readSheet(Reader reader) {
        reader.restart();
        for (int i = 0; i < sheetSize; i++) {
            if (!reader.takes(sheet[i])) {
                return i;
            }
        }
        return sheetSize;
    }

    private boolean sheetIsRead(Reader reader) {
        return readSheet(reader) == sheetSize && reader.atEnd();
    }

    public int page() {
        if (!sheetIsRead(pageReader)) {
            return STATE;
        }
        if (pageCount >= MOST_PAGES) {
            return FULL;
        }
        pages[pageCount] = new Page(pageReader);
        pageCount++;
        sheetSize = 0;
        fittingStands = false;
        return pageCount - 1;
    }

    public int rule(int sort) {
        if (!isSort(sort)) {
            return OUTSIDE;
        }
        if (!sheetIsRead(ruleReader)) {
            return STATE;
        }
        if (ruleCount >= MOST_RULES) {
            return FULL;
        }
        rules[ruleCount] = new Rule(sort, ruleReader);
        ruleCount++;
        sheetSize = 0;
        return ruleCount - 1;
    }

    private static boolean isSort(int sort) {
        return sort >= SORT_RULE && sort <= SORT_REST;
    }

    private Page pageAt(int number) {
        return number >= 0 && number < pageCount ? pages[number] : null;
    }

    private Rule ruleAt(int number) {
        return number >= 0 && number < ruleCount ? rules[number] : null;
    }

    private Law lawAt(int number) {
        return number >= 0 && number < lawCount ? laws[number] : null;
    }

    public int as(int rule, int sort) {
        Rule r = ruleAt(rule);
        if (r == null) {
            return UNKNOWN;
        }
        if (!isSort(sort)) {
            return OUTSIDE;
        }
        return r.isOf(sort) ? rule : NONE;
    }

    public int box(int page, int box, int what) {
        Page p = pageAt(page);
        if (p == null || !p.has(box)) {
            return UNKNOWN;
        }
        switch (what) {
            case 0: return p.kinds[box];
            case 1: return p.words[box];
            case 2: return p.parents[box];
            case 3: return Integer.bitCount(p.inner[box]);
            case 4: return p.depths[box];
            default: return OUTSIDE;
        }
    }

    public int gives(int rule, int page) {
        Rule r = ruleAt(rule);
        Page p = pageAt(page);
        if (r == null || p == null) {
            return UNKNOWN;
        }
        return r.drawn(p, ROOT);
    }

    public int word(int rule, int page, int i) {
        Rule r = ruleAt(rule);
        Page p = pageAt(page);
        if (r == null || p == null) {
            return UNKNOWN;
        }
        int box = nth(r.drawn(p, ROOT), i);
        return box == NONE ? NO_SUCH : p.words[box];
    }

    public int within(int rule, int page, int box) {
        Rule r = ruleAt(rule);
        Page p = pageAt(page);
        if (r == null || p == null || !p.has(box)) {
            return UNKNOWN;
        }
        return r.drawn(p, 1 << box);
    }

    // ---- marks

    public int mark(int page, int box, int as) {
        Page p = pageAt(page);
        if (p == null || !p.has(box)) {
            return UNKNOWN;
        }
        if (as < 0 || as > 2) {
            return OUTSIDE;
        }
        int was = p.markOf(box);
        p.setMark(box, as);
        fittingStands = false;
        return was;
    }

    public int whole(int page, boolean is) {
        Page p = pageAt(page);
        if (p == null) {
            return UNKNOWN;
        }
        int was = p.isWhole ? 1 : 0;
        p.isWhole = is;
        fittingStands = false;
        return was;
    }

    public int fits(int what) {
        if (what < 0 || what > 3) {
            return OUTSIDE;
        }
        if (pageCount == 0) {
            return STATE;
        }
        refreshFitting();
        if (what == 0) {
            return fitting.many;
        }
        if (fitting.many == 0) {
            return NONE;
        }
        switch (what) {
            case 1: return lengthOf(fitting.least);
            case 2: return lengthOf(fitting.likeliest);
            default: return fitting.even;
        }
    }

    private void refreshFitting() {
        if (!fittingStands) {
            fitting.workOut(pages, pageCount);
            fittingStands = true;
        }
    }

    public int step(int which, int i) {
        if (which < 0 || which > 1 || i < 0 || i > 2) {
            return OUTSIDE;
        }
        if (pageCount == 0) {
            return STATE;
        }
        refreshFitting();
        return stepOf(which == 0 ? fitting.least : fitting.likeliest, i);
    }

    public int leads(int page, int box) {
        Page p = pageAt(page);
        if (p == null || !p.has(box)) {
            return UNKNOWN;
        }
        refreshFitting();
        return fitting.leading[page * MOST_BOXES + box];
    }

    public int ask(int what) {
        if (what < 0 || what > 2) {
            return OUTSIDE;
        }
        refreshFitting();
        int asked = fitting.asked;
        if (asked == NONE) {
            return NONE;
        }
        switch (what) {
            case 0: return asked / MOST_BOXES;
            case 1: return asked % MOST_BOXES;
            default: return fitting.greaterPart(asked);
        }
    }

    // ---- laws, mends

    public int law(int form, int x, int y) {
        if (form < MANY || form > AS_BEFORE || x < 0 || x > 99 || y < 0 || y > 99) {
            return OUTSIDE;
        }
        if ((form == MANY || form == BETWEEN) && y < x) {
            return OUTSIDE;
        }
        if (lawCount >= MOST_LAWS) {
            return FULL;
        }
        laws[lawCount] = new Law(form, x, y);
        lawCount++;
        return lawCount - 1;
    }

    public int holds(int law, int rule, int page) {
        Law w = lawAt(law);
        Rule r = ruleAt(rule);
        Page p = pageAt(page);
        if (w == null || r == null || p == null) {
            return UNKNOWN;
        }
        Page ahead = pageAt(page - 1);
        int before = ahead == null ? 0 : r.drawn(ahead, ROOT);
        return w.isKept(p, r.drawn(p, ROOT), ahead, before) ? 1 : 0;
    }

    public int broken(int rule, int page) {
        Rule r = ruleAt(rule);
        Page p = pageAt(page);
        if (r == null || p == null) {
            return UNKNOWN;
        }
        int given = r.drawn(p, ROOT);
        if (given == 0) {
            return 1;
        }
        Page ahead = pageAt(page - 1);
        int before = ahead == null ? 0 : r.drawn(ahead, ROOT);
        int bits = 0;
        for (int i = 0; i < lawCount; i++) {
            if (!laws[i].isKept(p, given, ahead, before)) {
                bits |= 1 << i;
            }
        }
        return bits * 2;
    }

    public int mend(int rule, int old, int now, int what) {
        Rule r = ruleAt(rule);
        Page from = pageAt(old);
        Page to = pageAt(now);
        if (r == null || from == null || to == null || old == now) {
            return UNKNOWN;
        }
        if (what < 0 || what > 12 || (what > 3 && what < 10)) {
            return OUTSIDE;
        }
        int given = r.drawn(from, ROOT);
        if ((given & from.worded) == 0) {
            return STATE;
        }
        mending.workOut(to, to.sharedWords(to.worded, from, given));
        switch (what) {
            case 0: return mending.likeness;
            case 1: return lengthOf(mending.sentence);
            case 2: return mending.sure ? 1 : 0;
            case 3: return mending.leadsTo;
            default: return stepOf(mending.sentence, what - 10);
        }
    }

    // ---- pages beside pages

    public int like(int p, int q) {
        Page one = pageAt(p);
        Page other = pageAt(q);
        if (one == null || other == null) {
            return UNKNOWN;
        }
        return pairing.likeOf(one, other);
    }

    public int nearest(int page) {
        Page p = pageAt(page);
        if (p == null) {
            return UNKNOWN;
        }
        int best = NONE;
        int bestLike = -1;
        for (int q = 0; q < pageCount; q++) {
            if (q != page) {
                int alike = pairing.likeOf(p, pages[q]);
                if (alike > bestLike) {
                    best = q;
                    bestLike = alike;
                }
            }
        }
        return best;
    }

    public int joined(int row, int k, int l, int p, int q, int what) {
        Rule rows = ruleAt(row);
        Rule keys = ruleAt(k);
        Rule values = ruleAt(l);
        Page one = pageAt(p);
        Page other = pageAt(q);
        if (rows == null || keys == null || values == null || one == null || other == null) {
            return UNKNOWN;
        }
        if (what != 0 && (what < 10 || what > 69)) {
            return OUTSIDE;
        }
        setOtherKeys(rows, keys, other);
        if (what == 0) {
            return pairsUpTo(rows, keys, one, MOST_PAIRS);
        }
        int wanted = what < 40 ? what - 10 : what - 40;
        int pair = pairsUpTo(rows, keys, one, wanted);
        if (pair >= 0) {
            return NO_SUCH;
        }
        int found = -1 - pair;
        return what < 40 ? values.firstWord(one, found / MOST_BOXES) : values.firstWord(other, found % MOST_BOXES);
    }

    /** Keys are worked out once for the second PAGE, not again for each ROW of the first one. */
    private void setOtherKeys(Rule rows, Rule keys, Page other) {
        int set = rows.drawn(other, ROOT);
        for (int b = 0; b < MOST_BOXES; b++) {
            otherKeys[b] = isIn(set, b) ? keys.firstWord(other, b) : NONE;
        }
    }

    /** How many pairs there are; if there are more than wanted, that pair's two BOXES in one number below 0. */
    private int pairsUpTo(Rule rows, Rule keys, Page one, int wanted) {
        int set = rows.drawn(one, ROOT);
        int pairs = 0;
        for (int a = 0; a < one.size; a++) {
            int key = isIn(set, a) ? keys.firstWord(one, a) : NONE;
            for (int b = 0; b < MOST_BOXES; b++) {
                if (key != NONE && otherKeys[b] == key) {
                    if (pairs == wanted) {
                        return -1 - (a * MOST_BOXES + b);
                    }
                    pairs++;
                }
            }
        }
        return pairs;
    }

    public int key(int row, int k, int page, int i) {
        Rule rows = ruleAt(row);
        Rule keys = ruleAt(k);
        Page p = pageAt(page);
        if (rows == null || keys == null || p == null) {
            return UNKNOWN;
        }
        int box = nth(rows.drawn(p, ROOT), i);
        return box == NONE ? NO_SUCH : keys.firstWord(p, box);
    }

    // ---- what is told

    public int count(int what) {
        switch (what) {
            case 0: return pageCount;
            case 1: return ruleCount;
            case 2: return lawCount;
            case 3: return sheetSize;
            case 4: case 5: case 6: return countOnPages(what);
            default: return OUTSIDE;
        }
    }

    private int countOnPages(int what) {
        int sum = 0;
        for (int p = 0; p < pageCount; p++) {
            Page page = pages[p];
            sum += what == 4 ? Integer.bitCount(page.yes) : what == 5 ? Integer.bitCount(page.no) : page.size;
        }
        return sum;
    }

    public long digest() {
        long h = 331L;
        for (int p = 0; p < pageCount; p++) {
            h = digestPage(h, pages[p]);
        }
        for (int r = 0; r < ruleCount; r++) {
            h = 31L * h + rules[r].sort;
            for (int p = 0; p < pageCount; p++) {
                h = 31L * h + gives(r, p);
                h = 31L * h + broken(r, p);
            }
        }
        for (int i = 0; i < lawCount; i++) {
            h = 31L * h + laws[i].form;
            h = 31L * h + laws[i].x;
            h = 31L * h + laws[i].y;
        }
        for (int i = 0; i < sheetSize; i++) {
            h = 31L * h + sheet[i];
        }
        for (int what = 0; what <= 6; what++) {
            h = 31L * h + count(what);
        }
        return h;
    }

    private long digestPage(long before, Page page) {
        long h = before;
        for (int b = 0; b < page.size; b++) {
            h = 31L * h + page.kinds[b];
            h = 31L * h + page.words[b];
            h = 31L * h + page.parents[b];
            h = 31L * h + page.markOf(b);
        }
        h = 31L * h + (page.isWhole ? 1 : 0);
        return 31L * h + pairing.likeOf(page, pages[0]);
    }

    // ---- sets of BOXES, as bits

    private static boolean isIn(int set, int box) {
        return ((set >> box) & 1) != 0;
    }

    private static int leastOf(int set) {
        return set & -set;
    }

    /** The number of the BOX at place i of a set; NONE: there is no such place. */
    private static int nth(int set, int i) {
        int place = 0;
        for (int b = 0; b < MOST_BOXES; b++) {
            if (isIn(set, b)) {
                if (place == i) {
                    return b;
                }
                place++;
            }
        }
        return NONE;
    }

    // ---- SENTENCES, numbered in their order: number / TONGUE - 1 is the one without the last STEP

    private static int lengthOf(int sentence) {
        return sentence < TONGUE ? 1 : sentence < TONGUE + TONGUE * TONGUE ? 2 : 3;
    }

    /** The STEP at place i of a SENTENCE, which may be NONE. */
    private static int stepOf(int sentence, int i) {
        if (sentence < 0) {
            return NONE;
        }
        int length = lengthOf(sentence);
        if (i < 0 || i >= length) {
            return NONE;
        }
        int start = sentence;
        for (int last = length - 1; last > i; last--) {
            start = start / TONGUE - 1;
        }
        return start % TONGUE;
    }

    /** Takes a text letter by letter, as long as some text of its sort goes on so. */
    private abstract static class Reader {
        abstract void restart();

        abstract boolean takes(int letter);

        abstract boolean atEnd();

        static boolean isKind(int letter) {
            return letter >= 'a' && letter <= 'e';
        }

        static boolean isDigit(int letter) {
            return letter >= '0' && letter <= '9';
        }
    }

    private static final class PageReader extends Reader {
        private static final int MOST_DIGITS = 2;

        final int[] kinds = new int[MOST_BOXES];
        final int[] words = new int[MOST_BOXES];
        final int[] parents = new int[MOST_BOXES];
        int size;
        // The BOX whose "(" is the innermost one still open, and how many digits the last BOX has.
        private int open;
        private int digits;
        private boolean behindOpening;
        private boolean behindClosing;

        void restart() {
            size = 0;
            open = NONE;
            digits = 0;
            behindOpening = false;
            behindClosing = false;
        }

        boolean atEnd() {
            return size > 0 && open == NONE;
        }

        boolean takes(int letter) {
            if (isKind(letter)) {
                return takesKind(letter - 'a');
            }
            if (isDigit(letter)) {
                return takesDigit(letter - '0');
            }
            if (letter == '(') {
                return takesOpening();
            }
            return letter == ')' && takesClosing();
        }

        private boolean takesKind(int kind) {
            if (size >= MOST_BOXES || (size > 0 && open == NONE)) {
                return false;
            }
            kinds[size] = kind;
            words[size] = NONE;
            parents[size] = open;
            size++;
            digits = 0;
            behindOpening = false;
            behindClosing = false;
            return true;
        }

        private boolean lastBoxGoesOn() {
            return size > 0 && !behindOpening && !behindClosing;
        }

        private boolean takesDigit(int digit) {
            if (!lastBoxGoesOn() || digits >= MOST_DIGITS) {
                return false;
            }
            int last = size - 1;
            words[last] = digits == 0 ? digit : words[last] * 10 + digit;
            digits++;
            return true;
        }

        private boolean takesOpening() {
            if (!lastBoxGoesOn() || size >= MOST_BOXES) {
                return false;
            }
            open = size - 1;
            behindOpening = true;
            return true;
        }

        private boolean takesClosing() {
            if (open == NONE || behindOpening) {
                return false;
            }
            open = parents[open];
            behindClosing = true;
            return true;
        }
    }

    private static final class RuleReader extends Reader {
        final int[] steps = new int[MOST_STEPS];
        int size;
        private boolean behindStep;
        private boolean behindStar;

        void restart() {
            size = 0;
            behindStep = false;
            behindStar = false;
        }

        boolean atEnd() {
            return behindStep;
        }

        boolean takes(int letter) {
            if (behindStep) {
                behindStep = false;
                return letter == '/' && size < MOST_STEPS;
            }
            if (behindStar) {
                behindStar = false;
                return isKind(letter) && takesStep(DEEP_STEPS + letter - 'a');
            }
            if (letter == '*') {
                behindStar = true;
                return true;
            }
            if (isKind(letter)) {
                return takesStep(LETTER_STEPS + letter - 'a');
            }
            if (isDigit(letter)) {
                return takesStep(stepOfDigit(letter - '0'));
            }
            return letter == '>' && takesStep(NEXT_STEP);
        }

        private static int stepOfDigit(int digit) {
            return digit < TONGUE_DIGITS ? DIGIT_STEPS + digit : TONGUE + digit - TONGUE_DIGITS;
        }

        private boolean takesStep(int step) {
            if (size >= MOST_STEPS) {
                return false;
            }
            steps[size] = step;
            size++;
            behindStep = true;
            return true;
        }
    }

    private static final class Page {
        final int size;
        final int[] kinds, words, parents, depths;
        // Of each BOX those right within it, and those within it however deep.
        final int[] inner, deeper;
        // Of each BOX with a WORD the first BOX with the same: it stands for the WORD where unlike ones are counted.
        final int[] firstAlike;
        final int[] ofKind = new int[KINDS];
        final int worded, holders;
        int yes, no;
        boolean isWhole;
        // What each SENTENCE leads to: worked out when first needed, since many PAGES are never searched.
        final int[] sentenceSets = new int[SENTENCES];
        private boolean sentencesDrawn;

        Page(PageReader read) {
            size = read.size;
            kinds = Arrays.copyOf(read.kinds, size);
            words = Arrays.copyOf(read.words, size);
            parents = Arrays.copyOf(read.parents, size);
            depths = new int[size];
            inner = new int[size];
            deeper = new int[size];
            firstAlike = new int[size];
            int withWord = 0;
            int withInner = 0;
            for (int b = 0; b < size; b++) {
                ofKind[kinds[b]] |= 1 << b;
                firstAlike[b] = firstWith(words[b], b);
                if (words[b] != NONE) {
                    withWord |= 1 << b;
                }
                if (b > 0) {
                    depths[b] = depths[parents[b]] + 1;
                }
            }
            // Backwards, so that a BOX is whole before its PARENT takes what is within it.
            for (int b = size - 1; b > 0; b--) {
                int parent = parents[b];
                inner[parent] |= 1 << b;
                deeper[parent] |= deeper[b] | (1 << b);
                withInner |= 1 << parent;
            }
            worded = withWord;
            holders = withInner;
        }

        private int firstWith(int word, int last) {
            for (int b = 0; b < last; b++) {
                if (words[b] == word) {
                    return b;
                }
            }
            return last;
        }

        boolean has(int box) {
            return box >= 0 && box < size;
        }

        int markOf(int box) {
            return isIn(yes, box) ? 1 : isIn(no, box) ? 2 : 0;
        }

        void setMark(int box, int as) {
            int bit = 1 << box;
            yes = as == 1 ? yes | bit : yes & ~bit;
            no = as == 2 ? no | bit : no & ~bit;
        }

        boolean isUnmarked() {
            return yes == 0 && no == 0 && !isWhole;
        }

        boolean isMet(int set) {
            return isWhole ? set == yes : (set & yes) == yes && (set & no) == 0;
        }

        /** All BOXES to which a STEP leads from some of a set. */
        int led(int step, int set) {
            int to = 0;
            for (int b = 0; b < size; b++) {
                if (isIn(set, b)) {
                    to |= ledFrom(step, b);
                }
            }
            return to;
        }

        private int ledFrom(int step, int box) {
            if (step < DIGIT_STEPS) {
                return inner[box] & ofKind[step - LETTER_STEPS];
            }
            if (step < DEEP_STEPS) {
                return leastOf(innerFrom(box, step - DIGIT_STEPS));
            }
            if (step < NEXT_STEP) {
                return deeper[box] & ofKind[step - DEEP_STEPS];
            }
            if (step == NEXT_STEP) {
                return leastOf(innerBehind(box));
            }
            return leastOf(innerFrom(box, step - TONGUE + TONGUE_DIGITS));
        }

        /** Those right within a BOX, but for as many of the first as place tells. */
        private int innerFrom(int box, int place) {
            int rest = inner[box];
            for (int i = 0; i < place; i++) {
                rest &= rest - 1;
            }
            return rest;
        }

        /** Those behind a BOX within its PARENT. */
        private int innerBehind(int box) {
            int parent = parents[box];
            return parent == NONE ? 0 : inner[parent] & (-2 << box);
        }

        void drawSentences() {
            if (sentencesDrawn) {
                return;
            }
            for (int s = 0; s < SENTENCES; s++) {
                int from = s < TONGUE ? ROOT : sentenceSets[s / TONGUE - 1];
                // Most SENTENCES lead nowhere early: those that go on from there need no work.
                sentenceSets[s] = from == 0 ? 0 : led(s % TONGUE, from);
            }
            sentencesDrawn = true;
        }

        /** The unlike WORDS of a set, each as the first BOX of the PAGE with it. */
        int unlikeWords(int set) {
            int found = 0;
            for (int b = 0; b < size; b++) {
                if (isIn(set & worded, b)) {
                    found |= 1 << firstAlike[b];
                }
            }
            return found;
        }

        boolean hasWord(int set, int word) {
            for (int b = 0; b < size; b++) {
                if (isIn(set & worded, b) && words[b] == word) {
                    return true;
                }
            }
            return false;
        }

        /** The BOXES of a set with a WORD that some BOX of a set of another PAGE has. */
        int sharedWords(int set, Page other, int otherSet) {
            int shared = 0;
            for (int b = 0; b < size; b++) {
                if (isIn(set & worded, b) && other.hasWord(otherSet, words[b])) {
                    shared |= 1 << b;
                }
            }
            return shared;
        }
    }

    private static final class Rule {
        final int sort;
        private final int[] steps;

        Rule(int sort, RuleReader read) {
            this.sort = sort;
            this.steps = Arrays.copyOf(read.steps, read.size);
        }

        boolean isOf(int other) {
            return other == SORT_RULE || other == sort
                || (other == SORT_ROW && (sort == SORT_FIRST || sort == SORT_REST));
        }

        /** What the RULE GIVES from a set. */
        int drawn(Page page, int set) {
            int to = set;
            for (int i = 0; i < steps.length; i++) {
                to = page.led(steps[i], to);
            }
            int rows = to & page.holders;
            switch (sort) {
                case SORT_ROW: return rows;
                case SORT_CELL: return leastOf(to);
                case SORT_WORDS: return to & page.worded;
                case SORT_FIRST: return leastOf(rows);
                case SORT_REST: return rows & (rows - 1);
                default: return to;
            }
        }

        /** The WORD of the first BOX given from one BOX; NONE, if there is none such. */
        int firstWord(Page page, int box) {
            int first = nth(drawn(page, 1 << box), 0);
            return first == NONE ? NONE : page.words[first];
        }
    }

    private static final class Law {
        final int form, x, y;

        Law(int form, int x, int y) {
            this.form = form;
            this.x = x;
            this.y = y;
        }

        /** Whether the LAW holds for what is given on a PAGE, and was on the one ahead (null: there is none). */
        boolean isKept(Page page, int given, Page ahead, int before) {
            switch (form) {
                case MANY: return isBetween(Integer.bitCount(given));
                case BETWEEN: return wordsAreBetween(page, given);
                case UNLIKE:
                    return Integer.bitCount(given & page.worded) == Integer.bitCount(page.unlikeWords(given));
                default: return ahead == null || isAsBefore(page, given, ahead, before);
            }
        }

        private boolean isBetween(int number) {
            return number >= x && number <= y;
        }

        private boolean wordsAreBetween(Page page, int given) {
            for (int b = 0; b < page.size; b++) {
                if (isIn(given & page.worded, b) && !isBetween(page.words[b])) {
                    return false;
                }
            }
            return true;
        }

        private boolean isAsBefore(Page page, int given, Page ahead, int before) {
            int unlike = ahead.unlikeWords(before);
            int again = ahead.sharedWords(unlike, page, given);
            return Integer.bitCount(again) * 100 >= x * Integer.bitCount(unlike);
        }
    }

    /** All SENTENCES that FIT, as far as calls ask about them. */
    private static final class Fitting {
        int many, least, likeliest, even, asked;
        // For each BOX (PAGE times 24, and BOX) how many of the SENTENCES lead to it.
        final int[] leading = new int[MOST_PAGES * MOST_BOXES];
        private final int[] tally = new int[MOST_BOXES + 1];

        void workOut(Page[] pages, int pageCount) {
            many = 0;
            least = NONE;
            likeliest = NONE;
            even = NONE;
            Arrays.fill(leading, 0);
            for (int p = 0; p < pageCount; p++) {
                pages[p].drawSentences();
            }
            for (int s = 0; s < SENTENCES; s++) {
                if (isFit(pages, pageCount, s)) {
                    takeIn(pages, pageCount, s);
                }
            }
            asked = bestToAsk(pages, pageCount);
        }

        private static boolean isFit(Page[] pages, int pageCount, int sentence) {
            for (int p = 0; p < pageCount; p++) {
                if (!pages[p].isMet(pages[p].sentenceSets[sentence])) {
                    return false;
                }
            }
            return true;
        }

        private void takeIn(Page[] pages, int pageCount, int sentence) {
            if (many == 0) {
                least = sentence;
            }
            many++;
            int itsEven = evenOf(pages, pageCount, sentence);
            if (itsEven > even) {
                even = itsEven;
                likeliest = sentence;
            }
            for (int p = 0; p < pageCount; p++) {
                int set = pages[p].sentenceSets[sentence];
                for (int b = 0; set != 0 && b < MOST_BOXES; b++) {
                    leading[p * MOST_BOXES + b] += (set >> b) & 1;
                }
            }
        }

        private int evenOf(Page[] pages, int pageCount, int sentence) {
            Arrays.fill(tally, 0);
            int most = 0;
            for (int p = 0; p < pageCount; p++) {
                int boxes = Integer.bitCount(pages[p].sentenceSets[sentence]);
                if (boxes > 0 && pages[p].isUnmarked()) {
                    tally[boxes]++;
                    most = Math.max(most, tally[boxes]);
                }
            }
            return most;
        }

        int greaterPart(int place) {
            return Math.max(leading[place], many - leading[place]);
        }

        private int bestToAsk(Page[] pages, int pageCount) {
            int best = NONE;
            // With no SENTENCE on the other side the greater part is all of them: such a BOX is never asked for.
            int bestPart = many;
            for (int p = 0; p < pageCount; p++) {
                for (int b = 0; b < pages[p].size && !pages[p].isWhole; b++) {
                    int place = p * MOST_BOXES + b;
                    if (pages[p].markOf(b) == 0 && greaterPart(place) < bestPart) {
                        best = place;
                        bestPart = greaterPart(place);
                    }
                }
            }
            return best;
        }
    }

    /** The SENTENCE that best gives again on a new PAGE the WORDS given on the old one. */
    private static final class Mending {
        int sentence, likeness, leadsTo;
        boolean sure;

        /** Of the new PAGE wanted are the BOXES with a WORD that was given on the old one. */
        void workOut(Page now, int wanted) {
            now.drawSentences();
            int[] sets = now.sentenceSets;
            sentence = NONE;
            likeness = 0;
            for (int s = 0; s < SENTENCES; s++) {
                int its = likenessOf(now, sets[s], wanted);
                if (sentence == NONE || its > likeness) {
                    sentence = s;
                    likeness = its;
                    leadsTo = sets[s];
                    sure = true;
                } else if (its == likeness && sets[s] != leadsTo) {
                    sure = false;
                }
            }
        }

        private static int likenessOf(Page now, int set, int wanted) {
            int unlike = set == 0 ? 0 : now.unlikeWords(set);
            return Integer.bitCount(unlike & wanted) - Integer.bitCount(unlike & ~wanted);
        }
    }

    /** LIKE of two PAGES. */
    private static final class Pairing {
        private final int[] likes = new int[MOST_BOXES * MOST_BOXES];
        private final int[] best = new int[MOST_BOXES + 1];

        /** Backwards through both PAGES, so that those within are known before their PARENTS need them. */
        int likeOf(Page one, Page other) {
            for (int a = one.size - 1; a >= 0; a--) {
                for (int b = other.size - 1; b >= 0; b--) {
                    likes[a * MOST_BOXES + b] = likeOfBoxes(one, a, other, b);
                }
            }
            return likes[0];
        }

        private int likeOfBoxes(Page one, int a, Page other, int b) {
            if (one.kinds[a] != other.kinds[b]) {
                return 0;
            }
            int own = one.words[a] == other.words[b] ? 2 : 1;
            int within = one.inner[a] == 0 || other.inner[b] == 0 ? 0 : likeWithin(one.inner[a], other.inner[b]);
            return own + within;
        }

        /** best[n] is the most that those of the first set so far give with the first n of the second one. */
        private int likeWithin(int firstSet, int secondSet) {
            Arrays.fill(best, 0);
            int most = 0;
            for (int c = 0; c < MOST_BOXES; c++) {
                if (isIn(firstSet, c)) {
                    most = pairOneMore(c, secondSet);
                }
            }
            return most;
        }

        private int pairOneMore(int c, int secondSet) {
            int n = 0;
            int without = 0;
            for (int d = 0; d < MOST_BOXES; d++) {
                if (isIn(secondSet, d)) {
                    n++;
                    int paired = without + likes[c * MOST_BOXES + d];
                    without = best[n];
                    best[n] = Math.max(paired, Math.max(best[n], best[n - 1]));
                }
            }
            return best[n];
        }
    }
}
