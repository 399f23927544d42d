/** Promises 9 to 15: sentences, words, stems, letters, chains. */
public final class SentencePromises {
    private static final Due DUE = new Due();

    public static void main(String[] args) {
        sentence();
        sentenceWrongInput();
        word();
        stemsOfWords();
        stemsAreNumbered();
        stem();
        letter();
        manyStems();
        chains();
        chainsByLink();
        chain();
        chainOrder();
        over();
        DUE.end();
    }

    private static void sentence(TopicSeams x, int sentence, int words, int unlike, int once, int place) {
        DUE.is("9: WORDS of " + sentence, x.sentence(sentence, 0), words);
        DUE.is("9: UNLIKE of " + sentence, x.sentence(sentence, 1), unlike);
        DUE.is("9: ONCE of " + sentence, x.sentence(sentence, 2), once);
        DUE.is("9: first byte of " + sentence, x.sentence(sentence, 3), place);
    }

    private static void sentence() {
        TopicSeams x = Due.of("cat cats dog.dog. a b a c b a b d e.zoo. ");
        sentence(x, 0, 3, 2, 1, 0);
        sentence(x, 1, 1, 1, 1, 13);
        sentence(x, 2, 9, 5, 3, 18);
        sentence(x, 3, 1, 1, 1, 36);
        DUE.is("9: no fifth", x.sentence(4, 0), TopicSeams.BAD);
        sentence(Due.of("run running runs. run."), 0, 3, 2, 1, 0);
        TopicSeams twelve = Due.of("a.b.c.d.e.f.g.h.i.j.k. l.");
        sentence(twelve, 11, 1, 1, 1, 23);
        DUE.is("9: no thirteenth", twelve.sentence(12, 0), TopicSeams.BAD);
    }

    private static void sentenceWrongInput() {
        TopicSeams x = Due.of("a. b.");
        DUE.is("9: BAD sentence", x.sentence(-1, 0), TopicSeams.BAD);
        DUE.is("9: BAD sentence", x.sentence(2, 0), TopicSeams.BAD);
        DUE.is("9: BAD sentence", x.sentence(Integer.MAX_VALUE, 0), TopicSeams.BAD);
        DUE.is("9: BAD what", x.sentence(0, -1), TopicSeams.BAD);
        DUE.is("9: BAD what", x.sentence(0, 4), TopicSeams.BAD);
        DUE.is("9: of no text", new TopicSeams().sentence(0, 0), TopicSeams.BAD);
    }

    private static void word() {
        TopicSeams x = Due.of("b a b. c a. b.");
        int[][] stems = {{0, 1, 0}, {2, 1}, {0}};
        for (int s = 0; s < stems.length; s++) {
            for (int w = 0; w < stems[s].length; w++) DUE.is("10: word " + s + " " + w, x.word(s, w), stems[s][w]);
            DUE.is("10: no more in " + s, x.word(s, stems[s].length), TopicSeams.BAD);
        }
        DUE.is("10: BAD sentence", x.word(3, 0), TopicSeams.BAD);
        DUE.is("10: BAD sentence", x.word(-1, 0), TopicSeams.BAD);
        DUE.is("10: BAD word", x.word(0, -1), TopicSeams.BAD);
        DUE.is("10: BAD word", x.word(0, Integer.MAX_VALUE), TopicSeams.BAD);
        Due.retype(x, "a b c d e f g h i.");
        DUE.is("10: the ninth", x.word(0, 8), 8);
        DUE.is("10: no tenth", x.word(0, 9), TopicSeams.BAD);
    }

    private static String spelled(TopicSeams x, int stem) {
        StringBuilder letters = new StringBuilder();
        for (int i = 0; i < x.stem(stem, 0); i++) letters.append((char) x.letter(stem, i));
        return letters.toString();
    }

    private static void stemOf(String word, String stem) {
        String got = spelled(Due.of(word + "."), 0);
        DUE.holds("the stem of " + word + " is " + stem + ", not " + got, got.equals(stem));
    }

    private static void stemsOfWords() {
        String[][] pairs = {
            {"fishing", "fish"}, {"seeing", "see"}, {"being", "being"}, {"king", "king"}, {"ing", "ing"},
            {"wishes", "wishe"}, {"rated", "rat"}, {"bed", "bed"}, {"seed", "seed"}, {"ended", "end"}, {"ed", "ed"},
            {"cats", "cat"}, {"bus", "bus"}, {"mass", "mass"}, {"ss", "ss"}, {"s", "s"}, {"glasss", "glasss"},
            {"sings", "sing"}, {"kings", "king"}, {"beds", "bed"}, {"edings", "eding"}, {"seeding", "seed"},
            {"asses", "asse"}, {"ssing", "ssing"}, {"abcing", "abc"}, {"abed", "abed"}, {"abced", "abc"},
            {"singing", "sing"}, {"inginging", "inging"}, {"breading", "bread"}, {"abcdefging", "abcdefg"},
            {"abcdefghed", "abcdefgh"}, {"abcdefghis", "abcdefghi"}, {"abcdefghss", "abcdefghss"},
            {"zzzzzzzzzz", "zzzzzzzzzz"}, {"aaaaaaaaaa", "aaaaaaaaaa"}, {"abc", "abc"}, {"sss", "sss"},
            {"cates", "cate"}, {"thing", "thing"}, {"things", "thing"}, {"thinged", "thing"},
            {"coffee", "coffee"}, {"asked", "ask"}, {"abcinf", "abcinf"}, {"abchng", "abchng"}, {"abcimg", "abcimg"},
            {"abcdd", "abcdd"}, {"abcfd", "abcfd"}, {"abcr", "abcr"}, {"abct", "abct"}, {"abrs", "abr"}};
        for (String[] pair : pairs) stemOf(pair[0], pair[1]);
    }

    private static void stemsAreNumbered() {
        TopicSeams x = Due.of("zoo cats. cat zoos a. aa zooed cating aaaaa.");
        String[] stems = {"zoo", "cat", "a", "aa", "aaaaa"};
        DUE.is("STEMS", x.count(3), stems.length);
        for (int t = 0; t < stems.length; t++) {
            DUE.holds("STEM " + t + " is " + stems[t] + ", not " + spelled(x, t), spelled(x, t).equals(stems[t]));
        }
        DUE.is("10: cat again", x.word(1, 0), 1);
        DUE.is("10: zoos", x.word(1, 1), 0);
        DUE.is("10: zooed", x.word(2, 1), 0);
        DUE.is("10: cating", x.word(2, 2), 1);
    }

    private static void stem(TopicSeams x, int stem, int letters, int words, int first, int last) {
        DUE.is("11: letters of " + stem, x.stem(stem, 0), letters);
        DUE.is("11: WORDS of " + stem, x.stem(stem, 1), words);
        DUE.is("11: first SENTENCE of " + stem, x.stem(stem, 2), first);
        DUE.is("11: last SENTENCE of " + stem, x.stem(stem, 3), last);
    }

    private static void stem() {
        TopicSeams x = Due.of("cat. dog cats. dog dogs. fishing cat.");
        stem(x, 0, 3, 3, 0, 3);
        stem(x, 1, 3, 3, 1, 2);
        stem(x, 2, 4, 1, 3, 3);
        DUE.is("11: BAD stem", x.stem(3, 0), TopicSeams.BAD);
        DUE.is("11: BAD stem", x.stem(-1, 0), TopicSeams.BAD);
        DUE.is("11: BAD stem", x.stem(Integer.MIN_VALUE, 0), TopicSeams.BAD);
        DUE.is("11: BAD what", x.stem(0, -1), TopicSeams.BAD);
        DUE.is("11: BAD what", x.stem(0, 4), TopicSeams.BAD);
        Due.retype(x, "dog. cat dog.");
        stem(x, 0, 3, 2, 0, 1);
        stem(x, 1, 3, 1, 1, 1);
        DUE.is("11: the old third is gone", x.stem(2, 0), TopicSeams.BAD);
    }

    private static void letter() {
        TopicSeams x = Due.of("abcdefghij. zebras.");
        for (int i = 0; i < 10; i++) DUE.is("12: letter " + i, x.letter(0, i), 'a' + i);
        DUE.is("12: no eleventh", x.letter(0, 10), TopicSeams.BAD);
        String zebra = "zebra";
        for (int i = 0; i < 5; i++) DUE.is("12: zebra " + i, x.letter(1, i), zebra.charAt(i));
        DUE.is("12: the ending is off", x.letter(1, 5), TopicSeams.BAD);
        DUE.is("12: BAD i", x.letter(1, -1), TopicSeams.BAD);
        DUE.is("12: BAD i", x.letter(1, Integer.MAX_VALUE), TopicSeams.BAD);
        DUE.is("12: BAD stem", x.letter(2, 0), TopicSeams.BAD);
        DUE.is("12: BAD stem", x.letter(-1, 0), TopicSeams.BAD);
    }

    /** A hundred words in 200 bytes is the most that there can be. */
    private static void manyStems() {
        StringBuilder text = new StringBuilder();
        for (int w = 0; w < 100; w++) text.append((char) ('a' + w % 26)).append(w % 9 == 8 || w == 99 ? '.' : ' ');
        TopicSeams x = Due.of(text.toString());
        DUE.is("30: bytes", x.count(0), 200);
        DUE.is("30: SENTENCES", x.count(1), 12);
        DUE.is("30: WORDS", x.count(2), 100);
        DUE.is("30: STEMS", x.count(3), 26);
        DUE.is("11: WORDS of a", x.stem(0, 1), 4);
        DUE.is("11: last SENTENCE of a", x.stem(0, 3), 8);
        DUE.is("12: the last STEM", x.letter(25, 0), 'z');
        DUE.is("10: the last WORD", x.word(11, 0), 99 % 26);
    }

    private static void chains() {
        DUE.is("13: no text", new TopicSeams().chains(), 0);
        DUE.is("13: one word", Due.of("a.").chains(), 0);
        DUE.is("13: two in one sentence", Due.of("a a.").chains(), 1);
        DUE.is("13: next sentence", Due.of("a. a.").chains(), 1);
        DUE.is("13: two farther", Due.of("a. b. a.").chains(), 1);
        DUE.is("13: three farther", Due.of("a. b. b. a.").chains(), 1);
        DUE.is("13: each with two words", Due.of("a a. b. c. d. a a. b.").chains(), 2);
        DUE.is("13: one word behind a chain", Due.of("a a. b. c. d. a.").chains(), 1);
        DUE.is("13: by stems", Due.of("cat cats. dog. fish. dogs.").chains(), 2);
    }

    private static void chainsByLink() {
        TopicSeams x = Due.of("a. a. b. a. c. d. a. e. f. g. a. h.");
        int[] chains = {1, 1, 1, 1};
        int[] last = {1, 3, 6, 10};
        for (int link = 1; link <= 4; link++) {
            x.set(2, link);
            DUE.is("13: by LINK " + link, x.chains(), chains[link - 1]);
            DUE.is("14: last by LINK " + link, x.chain(0, 2), last[link - 1]);
        }
        Due.retype(x, "a. b. c. d. e. a.");
        DUE.is("13: five are too far", x.chains(), 0);
    }

    private static void chain(TopicSeams x, int i, int stem, int first, int last, int words, int weight) {
        DUE.is("14: STEM of " + i, x.chain(i, 0), stem);
        DUE.is("14: first of " + i, x.chain(i, 1), first);
        DUE.is("14: last of " + i, x.chain(i, 2), last);
        DUE.is("14: WORDS of " + i, x.chain(i, 3), words);
        DUE.is("14: WEIGHT of " + i, x.chain(i, 4), weight);
    }

    private static void chain() {
        TopicSeams x = Due.of("a b a. c. a. b b. b a.");
        chain(x, 0, 0, 0, 4, 4, 20);
        chain(x, 1, 1, 3, 4, 3, 6);
        for (int what = 0; what <= 4; what++) DUE.is("14: NONE", x.chain(2, what), TopicSeams.NONE);
        DUE.is("14: NONE", x.chain(99, 0), TopicSeams.NONE);
        DUE.is("14: BAD i", x.chain(100, 0), TopicSeams.BAD);
        DUE.is("14: BAD i", x.chain(-1, 0), TopicSeams.BAD);
        DUE.is("14: BAD what", x.chain(0, 5), TopicSeams.BAD);
        DUE.is("14: BAD what", x.chain(0, -1), TopicSeams.BAD);
        DUE.is("14: BAD what ahead of NONE", x.chain(2, 5), TopicSeams.BAD);
        DUE.is("14: NONE of no text", new TopicSeams().chain(0, 0), TopicSeams.NONE);
    }

    private static void chainOrder() {
        TopicSeams x = Due.of("b. a a. b. c. c. a. a. b b.");
        x.set(2, 1);
        chain(x, 0, 0, 7, 7, 2, 2);
        chain(x, 1, 1, 1, 1, 2, 2);
        chain(x, 2, 1, 5, 6, 2, 4);
        chain(x, 3, 2, 3, 4, 2, 4);
        DUE.is("13: four", x.chains(), 4);
        DUE.is("30: four", x.count(4), 4);
        x.set(2, 2);
        chain(x, 0, 0, 0, 2, 2, 6);
        DUE.is("14: one STEM in order", x.chain(1, 1), 7);
    }

    private static void over() {
        TopicSeams x = Due.of("a b a. c. a. b b. b a.");
        int[] number = {0, 1, 1, 1, 2};
        int[] weight = {0, 20, 20, 20, 26};
        for (int g = 1; g <= 4; g++) {
            DUE.is("15: over " + g, x.over(g, 0), number[g]);
            DUE.is("15: they weigh at " + g, x.over(g, 1), weight[g]);
        }
        DUE.is("15: BAD gap", x.over(0, 0), TopicSeams.BAD);
        DUE.is("15: BAD gap", x.over(5, 0), TopicSeams.BAD);
        DUE.is("15: BAD gap", x.over(-1, 0), TopicSeams.BAD);
        DUE.is("15: BAD what", x.over(1, 2), TopicSeams.BAD);
        DUE.is("15: BAD what", x.over(1, -1), TopicSeams.BAD);
        x.set(2, 1);
        DUE.is("15: by LINK 1", x.over(1, 0), 0);
        DUE.is("15: by LINK 1", x.over(4, 1), 6);
        Due.retype(x, "a a.");
        DUE.is("15: one sentence has no gap", x.over(1, 0), TopicSeams.BAD);
        Due.retype(x, "a a. b b.");
        DUE.is("15: chains of one sentence go over none", x.over(1, 0), 0);
        DUE.is("15: nor weigh there", x.over(1, 1), 0);
    }
}
