/**
 * A text parted where its vocabulary changes. The document's promises are kept by the public
 * methods; each of the classes inside holds one table, which is made anew only when something
 * that it rests on has changed, in rows that the constructor made.
 */
public final class TopicSeams {
    public static final int NONE = -1, BAD = -2, NOT = -3, FULL = -4;

    private static final int MOST_BYTES = 200, MOST_SENTENCES = 12, MOST_WORDS = 9, MOST_LETTERS = 10;
    private static final int ALL_WORDS = MOST_SENTENCES * MOST_WORDS;
    private static final int MOST_PARTS = 8, MOST_CHAINS = 100, MOST_GAPS = 11, TOLD_BITS = 4094;
    private static final int GREATEST_BYTE = 255, BLANK = 32, DOT = 46;

    private static final int STRANGE = 1, LONG = 2, EMPTY = 3, MANY = 4, OPEN = 5;
    private static final int NULL = 1, INDEX = 2, CAST = 3, STORE = 4, SIZE = 5;

    private static final int RULE = 0, FEE = 1, LINK = 2, WINDOW = 3;
    private static final int[] LEAST = {0, 0, 1, 1};
    private static final int[] MOST = {3, 40, 4, 4};

    private static final int LOST = -1, ALL_SHEETS = 4, MOST_ITEMS = 60, LEAST_INT = -2147483648;

    private final Text text = new Text();
    private final Fault flaw = new Fault();
    private final Reading reading = new Reading();
    private final Chains links = new Chains();
    private final Blocks blocks = new Blocks();
    private final Partings partings = new Partings();
    private final Drops drops = new Drops();
    private final Gaps gaps = new Gaps();
    private final Sheets sheets = new Sheets();
    private final int[] numbers = {0, 3, 2, 2};
    private int told = 0;
    private int latest = 0;
    private boolean textRead = false, chained = false, parted = false, dropped = false, gapped = false;

    public TopicSeams() {
    }

    // ---- the text, numbers

    public int type(int b) {
        if (noByte(b)) return BAD;
        if (text.size >= MOST_BYTES) return FULL;
        text.add(b);
        forgetText();
        return text.size;
    }

    public int wipe() {
        int had = text.size;
        text.size = 0;
        forgetText();
        return had;
    }

    public int undo() {
        if (text.size <= 0) return NOT;
        text.size--;
        forgetText();
        return text.size;
    }

    public int fault(int what) {
        if (what < 0 || what > 2) return BAD;
        readText();
        if (what == 0) return flaw.place;
        return what == 1 ? flaw.reason : flaw.inSentence;
    }

    public int set(int what, int v) {
        if (what < 0 || what > WINDOW) return BAD;
        if (v < LEAST[what] || v > MOST[what]) return BAD;
        int was = numbers[what];
        numbers[what] = v;
        if (what == LINK) {
            chained = false;
        } else if (what == WINDOW) {
            gapped = false;
        } else {
            parted = false;
            dropped = false;
        }
        return was;
    }

    public int tell(int gaps) {
        if ((gaps & ~TOLD_BITS) != 0) return BAD;
        int was = told;
        told = gaps;
        return was;
    }

    public int read(int s) {
        if (noSheet(s)) return BAD;
        if (sheets.isLost(s)) return finding(NULL);
        int came = Math.min(leadingBytes(s), MOST_BYTES - text.size);
        for (int i = 0; i < came; i++) text.add(sheets.item(s, i));
        forgetText();
        return came;
    }

    // ---- sentences, stems, chains

    public int sentence(int sentence, int what) {
        readText();
        if (noSentence(sentence) || what < 0 || what > 3) return BAD;
        if (what == 0) return reading.wordsIn[sentence];
        if (what == 1) return reading.unlikeIn(sentence);
        return what == 2 ? reading.onceIn(sentence) : reading.placeOf[sentence];
    }

    public int word(int sentence, int word) {
        readText();
        if (noSentence(sentence)) return BAD;
        if (word < 0 || word >= reading.wordsIn[sentence]) return BAD;
        return reading.stemAt[sentence][word];
    }

    public int stem(int stem, int what) {
        readText();
        if (noStem(stem) || what < 0 || what > 3) return BAD;
        if (what == 0) return reading.stemLetters[stem];
        if (what == 1) return reading.stemWords[stem];
        return what == 2 ? reading.firstOf[stem] : reading.lastOf[stem];
    }

    public int letter(int stem, int i) {
        readText();
        if (noStem(stem)) return BAD;
        if (i < 0 || i >= reading.stemLetters[stem]) return BAD;
        return reading.letterOf(stem, i);
    }

    public int chains() {
        readText();
        linkChains();
        return links.size;
    }

    public int chain(int i, int what) {
        if (i < 0 || i >= MOST_CHAINS || what < 0 || what > 4) return BAD;
        readText();
        linkChains();
        if (i >= links.size) return NONE;
        if (what == 0) return links.stemOf[i];
        if (what == 1) return links.firstOf[i];
        if (what == 2) return links.lastOf[i];
        return what == 3 ? links.wordsOf[i] : links.weightOf(i);
    }

    public int over(int gap, int what) {
        readText();
        if (noGap(gap) || what < 0 || what > 1) return BAD;
        linkChains();
        return what == 0 ? links.numberOver(gap) : links.weightOver(gap);
    }

    // ---- blocks, partings

    public int cost(int i, int j) {
        readText();
        int n = reading.sentences;
        if (i < 0 || i > n || j < 0 || j > n) return BAD;
        if (j <= i) return NOT;
        partText();
        return blocks.costs[i][j];
    }

    public int best(int k) {
        if (noParts(k)) return BAD;
        readText();
        if (k > reading.sentences) return NONE;
        partText();
        return partings.totalOf(k, reading.sentences);
    }

    public int seam(int k, int i) {
        if (noParts(k) || i < 0 || i >= MOST_PARTS) return BAD;
        readText();
        if (k > reading.sentences || i >= k) return NONE;
        partText();
        return partings.beginOf(k, i, reading.sentences);
    }

    public int bent() {
        readText();
        partText();
        int bits = 0;
        for (int k = 2; k < MOST_PARTS && k < reading.sentences; k++) {
            if (partings.isBent(k, reading.sentences)) bits |= 1 << k;
        }
        return bits;
    }

    public int drop(int k, int what) {
        if (noParts(k) || what < 0 || what > 1) return BAD;
        readText();
        dropSentences();
        return what == 0 ? drops.which[k] : drops.howMuch[k];
    }

    // ---- gaps

    public int gap(int gap, int what) {
        readText();
        if (noGap(gap) || what < 0 || what > 1) return BAD;
        weighGaps();
        return what == 0 ? gaps.alike[gap] : gaps.depth[gap];
    }

    public int deep(int i) {
        if (i < 0 || i >= MOST_GAPS) return BAD;
        readText();
        if (i >= reading.sentences - 1) return NONE;
        weighGaps();
        return gaps.deepest[i];
    }

    public int apart(int k, int w) {
        if (noParts(k) || w < 1 || w > MOST_GAPS) return BAD;
        readText();
        int n = reading.sentences;
        if (k > n) return NONE;
        partText();
        int seams = partings.seamBits(k, n);
        int unlike = 0;
        for (int first = 0; first + w < n; first++) {
            int between = ((1 << w) - 1) << (first + 1);
            if (Integer.bitCount(seams & between) != Integer.bitCount(told & between)) unlike++;
        }
        return unlike;
    }

    // ---- sheets

    public int sheet(int s, int form, int n) {
        if (noSheet(s) || noForm(form) || n > MOST_ITEMS) return BAD;
        if (n < 0) return finding(SIZE);
        sheets.make(s, form, n);
        return n;
    }

    public int lose(int s) {
        if (noSheet(s)) return BAD;
        if (sheets.isLost(s)) return finding(NULL);
        sheets.forms[s] = LOST;
        return sheets.sizes[s];
    }

    public int put(int s, int form, int i, int v) {
        if (noSheet(s) || noForm(form)) return BAD;
        int against = sheets.againstItem(s, form, i);
        if (against != 0) return finding(against);
        sheets.keep(s, i, v);
        return 1;
    }

    public int get(int s, int form, int i) {
        if (noSheet(s) || noForm(form)) return LEAST_INT;
        int against = sheets.againstItem(s, form, i);
        if (against != 0) {
            latest = against;
            return LEAST_INT;
        }
        return sheets.item(s, i);
    }

    public int copy(int s, int i, int t, int j, int n) {
        if (noSheet(s) || noSheet(t)) return BAD;
        if (sheets.isLost(s) || sheets.isLost(t)) return finding(NULL);
        if (sheets.forms[s] != sheets.forms[t]) return finding(STORE);
        if (sheets.lacks(s, i, n) || sheets.lacks(t, j, n)) return finding(INDEX);
        sheets.move(s, i, t, j, n);
        return 1;
    }

    public int write(int k, int s) {
        if (noParts(k) || noSheet(s)) return BAD;
        if (sheets.isLost(s)) return finding(NULL);
        readText();
        if (k > reading.sentences) return 0;
        partText();
        int n = Math.min(k, sheets.sizes[s]);
        for (int i = 0; i < n; i++) sheets.keep(s, i, partings.beginOf(k, i, reading.sentences));
        return n;
    }

    public int count(int what) {
        readText();
        switch (what) {
            case 0: return text.size;
            case 1: return reading.sentences;
            case 2: return reading.words;
            case 3: return reading.stems;
            case 4: return chains();
            case 5: return numbers[RULE];
            case 6: return numbers[FEE];
            case 7: return told;
            case 8: return latest;
            default: return BAD;
        }
    }

    public long digest() {
        long h = 17;
        for (int what = 0; what <= 7; what++) h = 31 * h + count(what);
        for (int what = 0; what <= 2; what++) h = 31 * h + fault(what);
        for (int it = 0; it < MOST_SENTENCES; it++) h = mixSentence(h, it);
        for (int it = 0; it < reading.stems; it++) h = mixStem(h, it);
        for (int it = 0; it <= 9; it++) {
            for (int what = 0; what <= 4; what++) h = 31 * h + chain(it, what);
        }
        for (int it = 0; it < reading.sentences; it++) {
            h = 31 * h + cost(0, it);
            h = 31 * h + cost(it, reading.sentences);
        }
        for (int k = 1; k <= MOST_PARTS; k++) h = mixParting(h, k);
        return 31 * h + bent();
    }

    private long mixSentence(long before, int it) {
        long h = before;
        for (int what = 0; what <= 3; what++) h = 31 * h + sentence(it, what);
        h = 31 * h + word(it, 0);
        h = 31 * h + word(it, 2);
        h = 31 * h + gap(it, 0);
        h = 31 * h + gap(it, 1);
        h = 31 * h + over(it, 0);
        h = 31 * h + over(it, 1);
        return 31 * h + deep(it);
    }

    private long mixStem(long before, int it) {
        long h = before;
        for (int what = 0; what <= 3; what++) h = 31 * h + stem(it, what);
        h = 31 * h + letter(it, 0);
        return 31 * h + letter(it, 3);
    }

    private long mixParting(long before, int k) {
        long h = 31 * before + best(k);
        for (int i = 0; i < MOST_PARTS; i++) h = 31 * h + seam(k, i);
        h = 31 * h + drop(k, 0);
        h = 31 * h + drop(k, 1);
        h = 31 * h + apart(k, 1);
        return 31 * h + apart(k, 3);
    }

    private static boolean noByte(int b) {
        return b < 0 || b > GREATEST_BYTE;
    }

    /** An item that is no byte may not come, and keeps back those behind it. */
    private int leadingBytes(int s) {
        int n = 0;
        while (n < sheets.sizes[s] && !noByte(sheets.item(s, n))) n++;
        return n;
    }

    private static boolean noParts(int k) {
        return k < 1 || k > MOST_PARTS;
    }

    private static boolean noSheet(int s) {
        return s < 0 || s >= ALL_SHEETS;
    }

    private static boolean noForm(int form) {
        return form < 0 || form > 2;
    }

    private boolean noSentence(int sentence) {
        return sentence < 0 || sentence >= reading.sentences;
    }

    private boolean noStem(int stem) {
        return stem < 0 || stem >= reading.stems;
    }

    private boolean noGap(int gap) {
        return gap < 1 || gap >= reading.sentences;
    }

    private int finding(int number) {
        latest = number;
        return -10 - number;
    }

    private void forgetText() {
        textRead = false;
        chained = false;
        parted = false;
        dropped = false;
        gapped = false;
    }

    private void readText() {
        if (textRead) return;
        flaw.seek(text);
        reading.fill(text, flaw.reason == NONE);
        textRead = true;
    }

    private void linkChains() {
        if (chained) return;
        links.fill(reading, numbers[LINK]);
        chained = true;
    }

    private void partText() {
        if (parted) return;
        blocks.fill(reading, NONE, numbers[RULE], numbers[FEE]);
        partings.fill(blocks.costs, reading.sentences);
        parted = true;
    }

    private void dropSentences() {
        if (dropped) return;
        drops.fill(reading, numbers[RULE], numbers[FEE]);
        dropped = true;
    }

    private void weighGaps() {
        if (gapped) return;
        gaps.fill(reading, numbers[WINDOW]);
        gapped = true;
    }

    private static boolean isLetter(int b) {
        return b >= 'a' && b <= 'z';
    }

    /** The bytes as they came, well or not. */
    private static final class Text {
        final int[] bytes = new int[MOST_BYTES];
        int size = 0;

        void add(int b) {
            if (size < 0 || size >= MOST_BYTES) return;
            bytes[size] = b;
            size++;
        }
    }

    /** Where a text cannot go on, and why: three times NONE, if it is well. */
    private static final class Fault {
        int place = NONE, reason = NONE, inSentence = NONE;
        private int letters, words, sentences;
        private boolean behindDot;

        void seek(Text text) {
            letters = 0;
            words = 0;
            sentences = 0;
            behindDot = false;
            for (int p = 0; p < text.size; p++) {
                int against = reasonAgainst(text.bytes[p]);
                if (against != NONE) {
                    keep(p, against, sentences);
                    return;
                }
                take(text.bytes[p]);
            }
            if (words > 0) {
                keep(text.size, OPEN, sentences);
            } else {
                keep(NONE, NONE, NONE);
            }
        }

        private void keep(int at, int why, int sentence) {
            place = at;
            reason = why;
            inSentence = sentence;
        }

        private int reasonAgainst(int b) {
            if (isLetter(b)) {
                if (letters == 0) return mayBegin() ? NONE : MANY;
                return letters < MOST_LETTERS ? NONE : LONG;
            }
            if (b != BLANK && b != DOT) return STRANGE;
            if (letters > 0) return NONE;
            return b == BLANK && behindDot ? NONE : EMPTY;
        }

        private boolean mayBegin() {
            return sentences < MOST_SENTENCES && words < MOST_WORDS;
        }

        private void take(int b) {
            behindDot = b == DOT;
            if (isLetter(b)) {
                if (letters == 0) words++;
                letters++;
                return;
            }
            letters = 0;
            if (b == DOT) {
                words = 0;
                sentences++;
            }
        }
    }

    /**
     * The sentences of a text and the stems of their words. A stem is known by its letters as
     * digits of five bits, the last one lowest: ten letters fit into a long, so that likeness
     * and endings are seen without a walk over the bytes.
     */
    private static final class Reading {
        private static final int BITS = 5, DIGIT = 31, BEFORE_A = 96;
        private static final int S = 19, SS = 19 << 5 | 19, ED = 5 << 5 | 4, ING = (9 << 5 | 14) << 5 | 7;

        int sentences = 0, words = 0, stems = 0;
        final int[] placeOf = new int[MOST_SENTENCES];
        final int[] wordsIn = new int[MOST_SENTENCES];
        final int[][] stemAt = new int[MOST_SENTENCES][MOST_WORDS];
        final int[][] times = new int[MOST_SENTENCES][ALL_WORDS];
        final int[] stemLetters = new int[ALL_WORDS];
        final int[] stemWords = new int[ALL_WORDS];
        final int[] firstOf = new int[ALL_WORDS];
        final int[] lastOf = new int[ALL_WORDS];
        private final long[] codes = new long[ALL_WORDS];

        void fill(Text text, boolean well) {
            sentences = 0;
            words = 0;
            stems = 0;
            if (!well) return;
            for (int s = 0; s < MOST_SENTENCES; s++) wordsIn[s] = 0;
            long code = 0;
            int letters = 0;
            for (int p = 0; p < text.size; p++) {
                int b = text.bytes[p];
                if (isLetter(b)) {
                    code = code << BITS | (b - BEFORE_A);
                    letters++;
                    continue;
                }
                if (letters > 0) addWord(code, letters, p - letters);
                code = 0;
                letters = 0;
                if (b == DOT) sentences++;
            }
        }

        private void addWord(long code, int letters, int place) {
            int s = sentences;
            if (s >= MOST_SENTENCES || wordsIn[s] >= MOST_WORDS || words >= ALL_WORDS) return;
            int ending = endingOf(code, letters);
            int stem = numberOf(code >> BITS * ending, letters - ending);
            if (wordsIn[s] == 0) placeOf[s] = place;
            stemAt[s][wordsIn[s]] = stem;
            wordsIn[s]++;
            words++;
            times[s][stem]++;
            stemWords[stem]++;
            lastOf[stem] = s;
        }

        private static int endingOf(long code, int letters) {
            if (letters >= 6 && (code & 32767) == ING) return 3;
            if (letters >= 5 && (code & 1023) == ED) return 2;
            if (letters >= 4 && (code & DIGIT) == S && (code & 1023) != SS) return 1;
            return 0;
        }

        private int numberOf(long code, int letters) {
            for (int t = 0; t < stems; t++) {
                if (codes[t] == code) return t;
            }
            int stem = stems;
            codes[stem] = code;
            stemLetters[stem] = letters;
            stemWords[stem] = 0;
            firstOf[stem] = sentences;
            for (int s = 0; s < MOST_SENTENCES; s++) times[s][stem] = 0;
            stems++;
            return stem;
        }

        int letterOf(int stem, int i) {
            int behind = stemLetters[stem] - 1 - i;
            return BEFORE_A + (int) (codes[stem] >> BITS * behind & DIGIT);
        }

        int unlikeIn(int sentence) {
            int unlike = 0;
            for (int t = 0; t < stems; t++) {
                if (times[sentence][t] > 0) unlike++;
            }
            return unlike;
        }

        int onceIn(int sentence) {
            int once = 0;
            for (int t = 0; t < stems; t++) {
                if (times[sentence][t] == 1) once++;
            }
            return once;
        }
    }

    /** Chains by stems, those of one stem in order. */
    private static final class Chains {
        int size = 0;
        final int[] stemOf = new int[MOST_CHAINS];
        final int[] firstOf = new int[MOST_CHAINS];
        final int[] lastOf = new int[MOST_CHAINS];
        final int[] wordsOf = new int[MOST_CHAINS];

        void fill(Reading reading, int link) {
            size = 0;
            for (int t = 0; t < reading.stems; t++) linkStem(reading, t, link);
        }

        private void linkStem(Reading reading, int stem, int link) {
            int first = reading.firstOf[stem];
            int last = first;
            int words = 0;
            for (int s = first; s <= reading.lastOf[stem]; s++) {
                int here = reading.times[s][stem];
                if (here == 0) continue;
                if (s - last > link) {
                    keep(stem, first, last, words);
                    first = s;
                    words = 0;
                }
                last = s;
                words += here;
            }
            keep(stem, first, last, words);
        }

        private void keep(int stem, int first, int last, int words) {
            if (words < 2 || size >= MOST_CHAINS) return;
            stemOf[size] = stem;
            firstOf[size] = first;
            lastOf[size] = last;
            wordsOf[size] = words;
            size++;
        }

        int weightOf(int i) {
            return wordsOf[i] * (lastOf[i] - firstOf[i] + 1);
        }

        private boolean goesOver(int i, int gap) {
            return firstOf[i] < gap && lastOf[i] >= gap;
        }

        int numberOver(int gap) {
            int number = 0;
            for (int i = 0; i < size; i++) {
                if (goesOver(i, gap)) number++;
            }
            return number;
        }

        int weightOver(int gap) {
            int weight = 0;
            for (int i = 0; i < size; i++) {
                if (goesOver(i, gap)) weight += weightOf(i);
            }
            return weight;
        }
    }

    /** What each block costs, of all sentences or of all but one. */
    private static final class Blocks {
        final int[][] costs = new int[MOST_SENTENCES + 1][MOST_SENTENCES + 1];
        private final int[] seen = new int[ALL_WORDS];
        private int words, unlike, once;

        /** The sentence left out may be NONE; those behind it move up by one. */
        void fill(Reading reading, int leftOut, int rule, int fee) {
            int n = leftOut == NONE ? reading.sentences : reading.sentences - 1;
            for (int i = 0; i < n; i++) {
                startBlock(reading.stems);
                for (int j = i; j < n; j++) {
                    addSentence(reading, leftOut == NONE || j < leftOut ? j : j + 1);
                    costs[i][j + 1] = price(rule) + fee;
                }
            }
        }

        private void startBlock(int stems) {
            words = 0;
            unlike = 0;
            once = 0;
            for (int t = 0; t < stems; t++) seen[t] = 0;
        }

        private void addSentence(Reading reading, int sentence) {
            for (int w = 0; w < reading.wordsIn[sentence]; w++) {
                int stem = reading.stemAt[sentence][w];
                words++;
                seen[stem]++;
                if (seen[stem] == 1) {
                    unlike++;
                    once++;
                } else if (seen[stem] == 2) {
                    once--;
                }
            }
        }

        private int price(int rule) {
            if (rule == 0) return 2 * unlike;
            if (rule == 1) return unlike * unlike;
            if (rule == 2) return words + 3 * once;
            int bonds = words - unlike;
            return bonds < 4 * unlike ? 4 * unlike - bonds : 0;
        }
    }

    /**
     * The least totals of the first j sentences in k parts, and where the last of these parts
     * begins. That beginning is the earliest of like ones, and so is each one ahead of it, which
     * is the order among like partings that the document wants.
     */
    private static final class Partings {
        private final int[][] totals = new int[MOST_PARTS + 1][MOST_SENTENCES + 1];
        private final int[][] begins = new int[MOST_PARTS + 1][MOST_SENTENCES + 1];

        void fill(int[][] costs, int n) {
            for (int j = 1; j <= n; j++) {
                totals[1][j] = costs[0][j];
                begins[1][j] = 0;
            }
            for (int k = 2; k <= MOST_PARTS; k++) {
                for (int j = k; j <= n; j++) chooseLastBlock(costs, k, j);
            }
        }

        private void chooseLastBlock(int[][] costs, int k, int j) {
            int least = totals[k - 1][k - 1] + costs[k - 1][j];
            int begin = k - 1;
            for (int i = k; i < j; i++) {
                int total = totals[k - 1][i] + costs[i][j];
                if (total < least) {
                    least = total;
                    begin = i;
                }
            }
            totals[k][j] = least;
            begins[k][j] = begin;
        }

        int totalOf(int k, int n) {
            return totals[k][n];
        }

        int beginOf(int k, int i, int n) {
            int at = n;
            for (int part = k; part > i; part--) at = begins[part][at];
            return at;
        }

        int seamBits(int k, int n) {
            int bits = 0;
            for (int i = 1; i < k; i++) bits |= 1 << beginOf(k, i, n);
            return bits;
        }

        boolean isBent(int k, int n) {
            return totals[k - 1][n] + totals[k + 1][n] >= 2 * totals[k][n];
        }
    }

    /** For each number of parts the sentence without which the total is least. */
    private static final class Drops {
        final int[] which = new int[MOST_PARTS + 1];
        final int[] howMuch = new int[MOST_PARTS + 1];
        private final Blocks blocks = new Blocks();
        private final Partings partings = new Partings();

        void fill(Reading reading, int rule, int fee) {
            for (int k = 0; k <= MOST_PARTS; k++) {
                which[k] = NONE;
                howMuch[k] = NONE;
            }
            int left = reading.sentences - 1;
            for (int s = 0; s < reading.sentences; s++) {
                blocks.fill(reading, s, rule, fee);
                partings.fill(blocks.costs, left);
                for (int k = 1; k <= MOST_PARTS && k <= left; k++) weigh(k, s, partings.totalOf(k, left));
            }
        }

        private void weigh(int k, int sentence, int total) {
            if (which[k] != NONE && total >= howMuch[k]) return;
            which[k] = sentence;
            howMuch[k] = total;
        }
    }

    /** How alike both sides of a gap are, how deep it lies, and the gaps by that. */
    private static final class Gaps {
        final int[] alike = new int[MOST_SENTENCES];
        final int[] depth = new int[MOST_SENTENCES];
        final int[] deepest = new int[MOST_GAPS];

        void fill(Reading reading, int window) {
            int n = reading.sentences;
            for (int g = 1; g < n; g++) alike[g] = likeness(reading, g, window);
            for (int g = 1; g < n; g++) depth[g] = leftHill(g) + rightHill(g, n) - 2 * alike[g];
            for (int g = 1; g < n; g++) insert(g);
        }

        private static int likeness(Reading reading, int gap, int window) {
            int from = Math.max(0, gap - window);
            int to = Math.min(reading.sentences, gap + window);
            int like = 0;
            for (int t = 0; t < reading.stems; t++) {
                like += Math.min(wordsWithin(reading, t, from, gap), wordsWithin(reading, t, gap, to));
            }
            return like;
        }

        private static int wordsWithin(Reading reading, int stem, int from, int to) {
            int words = 0;
            for (int s = from; s < to; s++) words += reading.times[s][stem];
            return words;
        }

        private int leftHill(int gap) {
            int top = alike[gap];
            for (int g = gap - 1; g >= 1 && alike[g] >= top; g--) top = alike[g];
            return top;
        }

        private int rightHill(int gap, int n) {
            int top = alike[gap];
            for (int g = gap + 1; g < n && alike[g] >= top; g++) top = alike[g];
            return top;
        }

        /** Gaps come in order, so that one stays behind those that are as deep. */
        private void insert(int gap) {
            int at = gap - 1;
            while (at > 0 && depth[deepest[at - 1]] < depth[gap]) {
                deepest[at] = deepest[at - 1];
                at--;
            }
            deepest[at] = gap;
        }
    }

    /** Rows of numbers: one room for each, of which a row takes as many items as it has. */
    private static final class Sheets {
        final int[] forms = {LOST, LOST, LOST, LOST};
        final int[] sizes = new int[ALL_SHEETS];
        private final int[][] items = new int[ALL_SHEETS][MOST_ITEMS];

        boolean isLost(int s) {
            return forms[s] == LOST;
        }

        void make(int s, int form, int n) {
            forms[s] = form;
            sizes[s] = n;
            for (int i = 0; i < n; i++) items[s][i] = 0;
        }

        /** The finding against the use of an item as of a form, 0 if there is none. */
        int againstItem(int s, int form, int i) {
            if (isLost(s)) return NULL;
            if (forms[s] != form) return CAST;
            return i < 0 || i >= sizes[s] ? INDEX : 0;
        }

        boolean lacks(int s, int i, int n) {
            return i < 0 || n < 0 || n > sizes[s] - i;
        }

        int item(int s, int i) {
            return items[s][i];
        }

        void keep(int s, int i, int v) {
            items[s][i] = forms[s] == 0 ? (byte) v : forms[s] == 1 ? (short) v : v;
        }

        void move(int s, int i, int t, int j, int n) {
            System.arraycopy(items[s], i, items[t], j, n);
        }
    }
}
