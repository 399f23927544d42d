/** The edges that the document names for sentences, words, stems and chains, sentence by sentence. */
public final class SentenceEdges {
    private static final Due DUE = new Due();
    private static final int LEAST = Integer.MIN_VALUE, GREATEST = Integer.MAX_VALUE;
    /** 200 bytes: eleven sentences of nine words, and one of one. */
    private static final String FULL = "a a b b c c d d e.f f g g h h i i e.".repeat(5) + "a a b b c c d d e.e.";
    private static final String TWELVE = "a.b.c.d.e.f.g.h.i.j.k.l.";

    public static void main(String[] args) {
        sentenceRefusals();
        sentenceAnswers();
        textsAnew();
        firstByte();
        wordRefusals();
        stemRefusals();
        stemAnswers();
        letterRefusals();
        linkReach();
        twoWordsOrMore();
        orderOfChains();
        weight();
        manyChains();
        chainRefusals();
        overEdges();
        overRefusals();
        DUE.end();
    }

    private static void sentenceRefusals() {
        DUE.says("WORDS (what = 0), UNLIKE (1), ONCE (2), the first byte (3) of a SENTENCE. BAD.");
        int[] noSentence = {-1, 2, 12, LEAST, GREATEST};
        int[] noWhat = {-1, 4, LEAST, GREATEST};
        TopicSeams x = Due.of("a. b.");
        for (int s : noSentence) {
            for (int what = 0; what <= 3; what++) {
                DUE.is("sentence(" + s + ", " + what + ")", x.sentence(s, what), TopicSeams.BAD);
            }
        }
        for (int what : noWhat) {
            DUE.is("sentence(0, " + what + ")", x.sentence(0, what), TopicSeams.BAD);
            DUE.is("sentence(1, " + what + ")", x.sentence(1, what), TopicSeams.BAD);
        }
        for (int what = 0; what <= 3; what++) {
            DUE.is("sentence(0, " + what + ") of no TEXT", new TopicSeams().sentence(0, what), TopicSeams.BAD);
            DUE.is("sentence(12, " + what + ") of twelve", Due.of(TWELVE).sentence(12, what), TopicSeams.BAD);
        }
        DUE.is("sentence(11, 0) of twelve", Due.of(TWELVE).sentence(11, 0), 1);
    }

    private static void sentence(TopicSeams x, int s, int words, int unlike, int once) {
        DUE.is("sentence(" + s + ", 0)", x.sentence(s, 0), words);
        DUE.is("sentence(" + s + ", 1)", x.sentence(s, 1), unlike);
        DUE.is("sentence(" + s + ", 2)", x.sentence(s, 2), once);
    }

    private static void sentenceAnswers() {
        DUE.says("of its WORDS, of UNLIKE STEMS among these, of STEMS that are there just ONCE");
        TopicSeams x = Due.of("a. a a a a a a a a a. a b c d e f g h i. a a b. aaa aaas. a a a b b c.");
        sentence(x, 0, 1, 1, 1);
        sentence(x, 1, 9, 1, 0);
        sentence(x, 2, 9, 9, 9);
        sentence(x, 3, 3, 2, 1);
        sentence(x, 4, 2, 1, 0);
        sentence(x, 5, 6, 3, 1);
    }

    /** What an earlier text left behind must not tell of a later one. */
    private static void textsAnew() {
        DUE.says("THE TEXT is empty");
        TopicSeams x = Due.of("a b c d.e e d d.c c b b.");
        sentence(x, 0, 4, 4, 4);
        DUE.is("chains()", x.chains(), 4);
        DUE.is("over(2, 0)", x.over(2, 0), 2);
        DUE.is("gap(1, 0)", x.gap(1, 0), 3);
        Due.retype(x, "a b.a.c.");
        sentence(x, 0, 2, 2, 2);
        sentence(x, 1, 1, 1, 1);
        sentence(x, 2, 1, 1, 1);
        DUE.is("chains()", x.chains(), 1);
        DUE.is("over(1, 0)", x.over(1, 0), 1);
        DUE.is("over(1, 1)", x.over(1, 1), 4);
        DUE.is("over(2, 0)", x.over(2, 0), 0);
        DUE.is("gap(1, 0)", x.gap(1, 0), 1);
        DUE.is("stem(3, 0)", x.stem(3, 0), TopicSeams.BAD);
        DUE.is("best(1)", x.best(1), 9);
        Due.retype(x, "a.");
        sentence(x, 0, 1, 1, 1);
        DUE.is("chain(0, 0)", x.chain(0, 0), TopicSeams.NONE);
        DUE.is("best(1)", x.best(1), 5);
        DUE.is("drop(1, 0)", x.drop(1, 0), TopicSeams.NONE);
    }

    private static void firstByte() {
        DUE.says("the first byte (3) of a SENTENCE");
        TopicSeams x = Due.of("aa.b. c.dd ee. f. ");
        int[] due = {0, 3, 6, 8, 15};
        for (int s = 0; s < due.length; s++) DUE.is("sentence(" + s + ", 3)", x.sentence(s, 3), due[s]);
        DUE.is("sentence(11, 3) of a full one", Due.of(FULL).sentence(11, 3), 198);
    }

    private static void wordRefusals() {
        DUE.says("The STEM of a WORD (0 on) of a SENTENCE. BAD.");
        TopicSeams x = Due.of("a b c d e f g h i. j.");
        for (int w = 0; w < 9; w++) DUE.is("word(0, " + w + ")", x.word(0, w), w);
        DUE.is("word(1, 0)", x.word(1, 0), 9);
        int[] noWord = {-1, 9, LEAST, GREATEST};
        for (int w : noWord) DUE.is("word(0, " + w + ")", x.word(0, w), TopicSeams.BAD);
        DUE.is("word(1, 1)", x.word(1, 1), TopicSeams.BAD);
        DUE.is("word(1, 8)", x.word(1, 8), TopicSeams.BAD);
        int[] noSentence = {-1, 2, 11, 12, LEAST, GREATEST};
        for (int s : noSentence) DUE.is("word(" + s + ", 0)", x.word(s, 0), TopicSeams.BAD);
        DUE.is("word(0, 0) of no TEXT", new TopicSeams().word(0, 0), TopicSeams.BAD);
        TopicSeams full = Due.of(FULL);
        DUE.is("word(11, 0) of a full one", full.word(11, 0), 4);
        DUE.is("word(10, 8) of a full one", full.word(10, 8), 4);
        DUE.is("word(11, 1) of a full one", full.word(11, 1), TopicSeams.BAD);
    }

    private static void stemRefusals() {
        DUE.says("How many letters (what = 0), how many WORDS there are of it (1), the first SENTENCE (2), the last (3) of a STEM. BAD.");
        TopicSeams x = Due.of("a b. b.");
        int[] noStem = {-1, 2, 100, LEAST, GREATEST};
        for (int t : noStem) {
            for (int what = 0; what <= 3; what++) DUE.is("stem(" + t + ", " + what + ")", x.stem(t, what), TopicSeams.BAD);
        }
        int[] noWhat = {-1, 4, LEAST, GREATEST};
        for (int what : noWhat) DUE.is("stem(0, " + what + ")", x.stem(0, what), TopicSeams.BAD);
        DUE.is("stem(0, 0) of no TEXT", new TopicSeams().stem(0, 0), TopicSeams.BAD);
    }

    private static void stem(TopicSeams x, int t, int letters, int words, int first, int last) {
        DUE.is("stem(" + t + ", 0)", x.stem(t, 0), letters);
        DUE.is("stem(" + t + ", 1)", x.stem(t, 1), words);
        DUE.is("stem(" + t + ", 2)", x.stem(t, 2), first);
        DUE.is("stem(" + t + ", 3)", x.stem(t, 3), last);
    }

    private static void stemAnswers() {
        DUE.says("how many WORDS there are of it (1), the first SENTENCE (2), the last (3)");
        stem(Due.of("abcdefghij."), 0, 10, 1, 0, 0);
        stem(Due.of("a."), 0, 1, 1, 0, 0);
        TopicSeams x = Due.of("cats. b. cat cat. c. c.b. ccc.ccc.ccc.ccc.ccc. d.");
        stem(x, 0, 3, 3, 0, 2);
        stem(x, 1, 1, 2, 1, 5);
        stem(x, 2, 1, 2, 3, 4);
        stem(x, 3, 3, 5, 6, 10);
        stem(x, 4, 1, 1, 11, 11);
        TopicSeams all = Due.of("a a a a a a a a a.".repeat(11) + "a.");
        stem(all, 0, 1, 100, 0, 11);
    }

    private static void letterRefusals() {
        DUE.says("Letter i (0 on) of a STEM, as a byte. BAD.");
        TopicSeams x = Due.of("abcdefghij z. bings.");
        for (int i = 0; i < 10; i++) DUE.is("letter(0, " + i + ")", x.letter(0, i), 'a' + i);
        DUE.is("letter(1, 0)", x.letter(1, 0), 'z');
        int[] none = {-1, 10, 11, LEAST, GREATEST};
        for (int i : none) DUE.is("letter(0, " + i + ")", x.letter(0, i), TopicSeams.BAD);
        DUE.is("letter(1, 1)", x.letter(1, 1), TopicSeams.BAD);
        DUE.is("letter(2, 3)", x.letter(2, 3), 'g');
        DUE.is("letter(2, 4)", x.letter(2, 4), TopicSeams.BAD);
        int[] noStem = {-1, 3, LEAST, GREATEST};
        for (int t : noStem) DUE.is("letter(" + t + ", 0)", x.letter(t, 0), TopicSeams.BAD);
        DUE.is("letter(0, 0) of no TEXT", new TopicSeams().letter(0, 0), TopicSeams.BAD);
    }

    /** A stem, sentences without it, and the stem again: just as far as may be, and one farther. */
    private static void linkReach() {
        DUE.says("one goes on as long as the next SENTENCE with that STEM is no more than LINK (1 to 4; 2 at first) farther");
        String others = "b.c.d.e.f.";
        for (int far = 1; far <= 6; far++) {
            String text = "a." + others.substring(0, 2 * (far - 1)) + "a.";
            DUE.is("chains() at first, " + far + " farther", Due.of(text).chains(), far <= 2 ? 1 : 0);
            for (int link = 1; link <= 4; link++) {
                TopicSeams x = Due.of(text);
                x.set(2, link);
                DUE.is("chains() by LINK " + link + ", " + far + " farther", x.chains(), far <= link ? 1 : 0);
                DUE.is("its last", x.chain(0, 2), far <= link ? far : TopicSeams.NONE);
            }
        }
        TopicSeams x = Due.of("a.b.a.c.a.d.a.e.a.f.a.g.");
        DUE.is("from one to the next, not from the first", x.chains(), 1);
        DUE.is("to the last", x.chain(0, 2), 10);
    }

    private static void twoWordsOrMore() {
        DUE.says("each with two WORDS or more of that STEM in all is a CHAIN");
        DUE.is("no WORD", new TopicSeams().chains(), 0);
        DUE.is("one WORD", Due.of("a.").chains(), 0);
        DUE.is("two in one SENTENCE", Due.of("a a.").chains(), 1);
        DUE.is("two of one STEM", Due.of("cat cats.").chains(), 1);
        DUE.is("one and one", Due.of("a.a.").chains(), 1);
        DUE.is("one, far from one", Due.of("a.b.c.a.").chains(), 0);
        DUE.is("two, far from one", Due.of("a a.b.c.a.").chains(), 1);
        DUE.is("one, far from two", Due.of("a.b.c.a a.").chains(), 1);
        DUE.is("it is the later one", Due.of("a.b.c.a a.").chain(0, 1), 3);
        DUE.is("two, far from two", Due.of("a a.b.c.a a.").chains(), 2);
    }

    private static void orderOfChains() {
        DUE.says("They are told by STEMS, of one STEM in order.");
        TopicSeams x = Due.of("a.b b.c.b b.a a.c.b b.a.");
        x.set(2, 1);
        int[] stems = {0, 1, 1, 1};
        int[] first = {4, 1, 3, 6};
        for (int i = 0; i < 4; i++) {
            DUE.is("chain(" + i + ", 0)", x.chain(i, 0), stems[i]);
            DUE.is("chain(" + i + ", 1)", x.chain(i, 1), first[i]);
        }
        DUE.is("chain(4, 0)", x.chain(4, 0), TopicSeams.NONE);
    }

    private static void chain(TopicSeams x, int i, int stem, int first, int last, int words, int weight) {
        DUE.is("chain(" + i + ", 0)", x.chain(i, 0), stem);
        DUE.is("chain(" + i + ", 1)", x.chain(i, 1), first);
        DUE.is("chain(" + i + ", 2)", x.chain(i, 2), last);
        DUE.is("chain(" + i + ", 3)", x.chain(i, 3), words);
        DUE.is("chain(" + i + ", 4)", x.chain(i, 4), weight);
    }

    private static void weight() {
        DUE.says("its WORDS of that STEM times the number of SENTENCES from its first to its last one, with both");
        chain(Due.of("a a."), 0, 0, 0, 0, 2, 2);
        chain(Due.of("a.a."), 0, 0, 0, 1, 2, 4);
        chain(Due.of("a.b.a."), 0, 0, 0, 2, 2, 6);
        chain(Due.of("b.a a.b.a."), 1, 1, 1, 3, 3, 9);
        chain(Due.of("a a a a a a a a a.".repeat(11) + "a."), 0, 0, 0, 11, 100, 1200);
    }

    /** As many chains as go into 200 bytes here: 45, where each stem but e comes in every other sentence. */
    private static void manyChains() {
        DUE.says("How many CHAINS.");
        TopicSeams x = Due.of(FULL);
        x.set(2, 1);
        DUE.is("bytes", x.count(0), 200);
        DUE.is("chains()", x.chains(), 45);
        DUE.is("count(4)", x.count(4), 45);
        chain(x, 0, 0, 0, 0, 2, 2);
        chain(x, 23, 3, 10, 10, 2, 2);
        chain(x, 24, 4, 0, 11, 12, 144);
        chain(x, 25, 5, 1, 1, 2, 2);
        chain(x, 44, 8, 9, 9, 2, 2);
        DUE.is("chain(45, 0)", x.chain(45, 0), TopicSeams.NONE);
        x.set(2, 2);
        DUE.is("chains() by LINK 2", x.chains(), 9);
    }

    private static void chainRefusals() {
        DUE.says("Of the i-th (0 to 99) the STEM (what = 0), the first SENTENCE (1), the last (2), WORDS (3), WEIGHT (4); NONE. BAD.");
        TopicSeams x = Due.of("a a.");
        for (int what = 0; what <= 4; what++) {
            DUE.is("chain(1, " + what + ")", x.chain(1, what), TopicSeams.NONE);
            DUE.is("chain(99, " + what + ")", x.chain(99, what), TopicSeams.NONE);
            DUE.is("chain(100, " + what + ")", x.chain(100, what), TopicSeams.BAD);
            DUE.is("chain(-1, " + what + ")", x.chain(-1, what), TopicSeams.BAD);
            DUE.is("chain(0, " + what + ") of no TEXT", new TopicSeams().chain(0, what), TopicSeams.NONE);
        }
        int[] none = {LEAST, GREATEST};
        for (int i : none) DUE.is("chain(" + i + ", 0)", x.chain(i, 0), TopicSeams.BAD);
        int[] noWhat = {-1, 5, LEAST, GREATEST};
        for (int what : noWhat) {
            DUE.is("chain(0, " + what + ")", x.chain(0, what), TopicSeams.BAD);
            DUE.is("chain(1, " + what + "), BAD ahead of NONE", x.chain(1, what), TopicSeams.BAD);
            DUE.is("chain(0, " + what + ") of no TEXT", new TopicSeams().chain(0, what), TopicSeams.BAD);
        }
    }

    /** The chain goes from sentence 2 to 4, so over the gaps 3 and 4 alone. */
    private static void overEdges() {
        DUE.says("How many CHAINS go over a GAP, that is, begin ahead of it and end behind it (what = 0), what these weigh together (1).");
        TopicSeams x = Due.of("b.c.a.d.a a.e.");
        int[] number = {0, 0, 0, 1, 1, 0};
        for (int g = 1; g <= 5; g++) {
            DUE.is("over(" + g + ", 0)", x.over(g, 0), number[g]);
            DUE.is("over(" + g + ", 1)", x.over(g, 1), 9 * number[g]);
        }
        TopicSeams one = Due.of("b.a a a.c.");
        for (int g = 1; g <= 2; g++) DUE.is("over(" + g + ", 0), one SENTENCE's", one.over(g, 0), 0);
        TopicSeams full = Due.of(FULL);
        int[] due = {0, 5, 9, 9, 9, 9, 9, 9, 9, 9, 5, 1};
        for (int g = 1; g <= 11; g++) DUE.is("over(" + g + ", 0) of a full one", full.over(g, 0), due[g]);
        DUE.is("over(11, 1) of a full one", full.over(11, 1), 144);
        DUE.is("over(2, 1) of a full one", full.over(2, 1), 4 * 12 * 11 + 144 + 4 * 10 * 9);
    }

    private static void overRefusals() {
        DUE.says("GAPS are 1 to less than the number of SENTENCES");
        int[] none = {-1, 0, LEAST, GREATEST, 12};
        for (int n = 0; n <= 12; n++) {
            TopicSeams x = Due.of(TWELVE.substring(0, 2 * n));
            for (int g : none) DUE.is("over(" + g + ", 0) of " + n, x.over(g, 0), TopicSeams.BAD);
            for (int g = 1; g <= 12; g++) DUE.is("over(" + g + ", 1) of " + n, x.over(g, 1), g < n ? 0 : TopicSeams.BAD);
        }
        DUE.says("what these weigh together (1). BAD.");
        TopicSeams x = Due.of("a.a.");
        int[] noWhat = {-1, 2, LEAST, GREATEST};
        for (int what : noWhat) DUE.is("over(1, " + what + ")", x.over(1, what), TopicSeams.BAD);
    }
}
