/** The edges that the document names for the text, its fault, the numbers and what is told, sentence by sentence. */
public final class TextEdges {
    private static final Due DUE = new Due();
    private static final int LEAST = Integer.MIN_VALUE, GREATEST = Integer.MAX_VALUE;
    private static final int STRANGE = 1, LONG = 2, EMPTY = 3, MANY = 4, OPEN = 5;
    private static final String TEN = "abcdefghij";
    private static final String NINE = "a b c d e f g h i";
    private static final String TWELVE = "a.b.c.d.e.f.g.h.i.j.k.l.";

    public static void main(String[] args) {
        upTo200Bytes();
        upTo512Calls();
        lettersOfAWord();
        oneBlank();
        twelveSentences();
        nineWordsAndADot();
        oneBlankBehindADot();
        endingIng();
        endingEd();
        endingS();
        elseItself();
        stemsNumbered();
        faultIsTheFirst();
        faultAtTheEnd();
        reasonStrange();
        reasonLong();
        reasonEmpty();
        reasonMany();
        reasonOpen();
        faultSentence();
        asIfEmpty();
        faultFoundAnew();
        newObject();
        type();
        wipe();
        undo();
        faultAsked();
        set();
        tell();
        read();
        DUE.end();
    }

    /** Nine words of one letter and a dot are 18 bytes: eleven such, and one of two bytes. */
    private static String full() {
        return (NINE + ".").repeat(11) + "z.";
    }

    private static void fault(String text, int place, int reason, int sentence) {
        fault(Due.of(text), text, place, reason, sentence);
    }

    private static void fault(TopicSeams x, String text, int place, int reason, int sentence) {
        DUE.is("place in '" + text + "'", x.fault(0), place);
        DUE.is("REASON in '" + text + "'", x.fault(1), reason);
        DUE.is("SENTENCE in '" + text + "'", x.fault(2), sentence);
    }

    private static void well(String text, int sentences, int words) {
        TopicSeams x = Due.of(text);
        fault(x, text, -1, -1, -1);
        DUE.is("SENTENCES of '" + text + "'", x.count(1), sentences);
        DUE.is("WORDS of '" + text + "'", x.count(2), words);
    }

    private static void upTo200Bytes() {
        DUE.says("THE TEXT has up to 200 bytes.");
        TopicSeams x = Due.of(full());
        DUE.is("count(0)", x.count(0), 200);
        DUE.is("the last byte is read", x.count(1), 12);
        DUE.is("the last WORD is read", x.sentence(11, 3), 198);
        DUE.is("the 201st", x.type(' '), TopicSeams.FULL);
        DUE.is("count(0) still", x.count(0), 200);
        DUE.is("still well", x.fault(0), TopicSeams.NONE);
    }

    private static void upTo512Calls() {
        DUE.says("An object is used for at most 512 calls after it has been made");
        TopicSeams x = new TopicSeams();
        String text = "aa. bb. aa.";
        Due.typeAll(x, text);
        for (int call = text.length() + 1; call <= 511; call++) {
            if (call % 2 == text.length() % 2) x.type('.');
            else x.undo();
        }
        DUE.is("the 512th call", x.digest(), Due.of(text).digest());
    }

    private static void lettersOfAWord() {
        DUE.says("A WORD is 1 to 10 letters a to z");
        for (char c = 'a'; c <= 'z'; c++) well(c + ".", 1, 1);
        well(TEN + ".", 1, 1);
        well("zzzzzzzzzz.", 1, 1);
        fault(TEN + "k.", 10, LONG, 0);
        int[] others = {'a' - 1, 'z' + 1, 'A', 'Z', 'a' + 128, 'z' + 128, '0', '9', '-', '\''};
        for (int b : others) fault("b" + (char) b + "c.", 1, STRANGE, 0);
    }

    private static void oneBlank() {
        DUE.says("WORDS are parted by one blank (32)");
        well("a b.", 1, 2);
        well(TEN + " " + TEN + ".", 1, 2);
        fault("a  b.", 2, EMPTY, 0);
        int[] others = {31, 33, 9, 10, 160, 0};
        for (int b : others) fault("a" + (char) b + "b.", 1, STRANGE, 0);
    }

    private static void twelveSentences() {
        DUE.says("a SENTENCE (0 on, 12 at most)");
        well("a.", 1, 1);
        well(TWELVE, 12, 12);
        TopicSeams x = Due.of(TWELVE);
        DUE.is("the first is 0", x.sentence(0, 3), 0);
        DUE.is("the twelfth is 11", x.sentence(11, 3), 22);
        DUE.is("there is no 12", x.sentence(12, 3), TopicSeams.BAD);
        fault(TWELVE + "m.", 24, MANY, 12);
    }

    private static void nineWordsAndADot() {
        DUE.says("is 1 to 9 WORDS and a dot (46)");
        well("a.", 1, 1);
        well("a b c d e f g h.", 1, 8);
        well(NINE + ".", 1, 9);
        well(NINE + "." + NINE + ".", 2, 18);
        fault(NINE + " j.", 18, MANY, 0);
        fault(".", 0, EMPTY, 0);
        fault("a..", 2, EMPTY, 1);
        fault("a", 1, OPEN, 0);
        int[] others = {45, 47, 46 + 128, ',', '!'};
        for (int b : others) fault("a" + (char) b, 1, STRANGE, 0);
    }

    private static void oneBlankBehindADot() {
        DUE.says("behind a dot there may be one blank");
        well("a.b.", 2, 2);
        well("a. b.", 2, 2);
        well("a.b. c.", 3, 3);
        well("a. ", 1, 1);
        well("a.b. ", 2, 2);
        well(TWELVE + " ", 12, 12);
        fault("a.  ", 3, EMPTY, 1);
        fault("a.  b.", 3, EMPTY, 1);
        fault(" a.", 0, EMPTY, 0);
        fault("a b .", 4, EMPTY, 0);
    }

    private static void stem(String word, String stem) {
        TopicSeams x = Due.of(word + ".");
        DUE.is("letters of the STEM of " + word, x.stem(0, 0), stem.length());
        for (int i = 0; i < stem.length(); i++) DUE.is("letter " + i + " of " + word, x.letter(0, i), stem.charAt(i));
        DUE.is("no more letters of " + word, x.letter(0, stem.length()), TopicSeams.BAD);
    }

    private static void endingIng() {
        DUE.says("if it ends with ing, and has 6 letters or more, it is that without");
        stem("ing", "ing");
        stem("aing", "aing");
        stem("being", "being");
        stem("seeing", "see");
        stem("abcding", "abcd");
        stem("abcdefging", "abcdefg");
        stem("abcdin", "abcdin");
        stem("abcdng", "abcdng");
        stem("abinga", "abinga");
    }

    private static void endingEd() {
        DUE.says("else if with ed, and 5 or more, without");
        stem("ed", "ed");
        stem("bed", "bed");
        stem("seed", "seed");
        stem("ended", "end");
        stem("abcded", "abcd");
        stem("abcdefghed", "abcdefgh");
        stem("abcde", "abcde");
        stem("abcdd", "abcdd");
        stem("eddie", "eddie");
        stem("coffee", "coffee");
        stem("abcec", "abcec");
        stem("abcfd", "abcfd");
    }

    private static void endingS() {
        DUE.says("else if with s, and not with ss, and 4 or more, without");
        stem("s", "s");
        stem("as", "as");
        stem("bus", "bus");
        stem("cats", "cat");
        stem("abcds", "abcd");
        stem("abcdefghis", "abcdefghi");
        stem("ss", "ss");
        stem("ass", "ass");
        stem("mass", "mass");
        stem("abcdefghss", "abcdefghss");
        stem("asas", "asa");
    }

    private static void elseItself() {
        DUE.says("else itself");
        stem("a", "a");
        stem("z", "z");
        stem(TEN, TEN);
        DUE.says("it is that without");
        stem("singings", "singing");
        stem("endeds", "ended");
        stem("glassing", "glass");
        stem("bededed", "beded");
        stem("catsing", "cats");
        stem("catsed", "cats");
    }

    /** As many stems as 200 bytes can hold: those of one letter, and 49 of two. */
    private static void stemsNumbered() {
        DUE.says("STEMS are numbered as they come first, 0 on.");
        StringBuilder text = new StringBuilder();
        for (int w = 0; w < 75; w++) {
            String word = w < 26 ? "" + (char) ('a' + w) : "" + (char) ('a' + (w - 26) / 26) + (char) ('a' + (w - 26) % 26);
            text.append(word).append(w % 9 == 8 || w == 74 ? '.' : ' ');
        }
        DUE.is("bytes", text.length(), 199);
        TopicSeams x = Due.of(text.toString());
        DUE.is("STEMS", x.count(3), 75);
        for (int w = 0; w < 75; w++) DUE.is("WORD " + w, x.word(w / 9, w % 9), w);
        DUE.is("letters of 25", x.stem(25, 0), 1);
        DUE.is("letters of 26", x.stem(26, 0), 2);
        DUE.is("the last letter of 74", x.letter(74, 1), 'a' + 48 % 26);
        DUE.is("there is no 75", x.stem(75, 0), TopicSeams.BAD);
    }

    private static void faultIsTheFirst() {
        DUE.says("The FAULT of THE TEXT is the place of the first byte with which it cannot go on");
        fault("A", 0, STRANGE, 0);
        fault("a.A.. ", 2, STRANGE, 1);
        fault("a..A", 2, EMPTY, 1);
        fault(TEN + "kA", 10, LONG, 0);
        fault(NINE + " jA", 18, MANY, 0);
        fault("a. b", 4, OPEN, 1);
        fault(full().substring(0, 199) + "A", 199, STRANGE, 11);
    }

    private static void faultAtTheEnd() {
        DUE.says("(its end, if it ends ahead of a dot; an empty one is well)");
        well("", 0, 0);
        fault("a", 1, OPEN, 0);
        fault("a ", 2, OPEN, 0);
        fault("a.b", 3, OPEN, 1);
        well("a.", 1, 1);
        well("a. ", 1, 1);
        fault(full().substring(0, 198) + "zz", 200, OPEN, 11);
        fault(full().substring(0, 199), 199, OPEN, 11);
        TopicSeams x = Due.of("a");
        x.wipe();
        fault(x, "wiped", -1, -1, -1);
        x.type('a');
        x.undo();
        fault(x, "undone", -1, -1, -1);
    }

    private static void reasonStrange() {
        DUE.says("1 STRANGE: that byte can never be");
        for (int b = 0; b <= 255; b++) {
            boolean may = b == ' ' || b == '.' || b >= 'a' && b <= 'z';
            TopicSeams x = Due.of("a");
            x.type(b);
            x.type('A');
            DUE.is("place behind a, of byte " + b, x.fault(0), may ? 2 : 1);
            DUE.is("REASON behind a, of byte " + b, x.fault(1), STRANGE);
        }
        fault(TEN + "K", 10, STRANGE, 0);
        fault("a. \t", 3, STRANGE, 1);
        fault(NINE + " J", 18, STRANGE, 0);
        fault(TWELVE + "M", 24, STRANGE, 12);
        fault(TWELVE + " M", 25, STRANGE, 12);
    }

    private static void reasonLong() {
        DUE.says("2 LONG: the eleventh letter of a WORD");
        fault(TEN + "k", 10, LONG, 0);
        fault(TEN + "kl", 10, LONG, 0);
        fault("a b " + TEN + "k", 14, LONG, 0);
        fault("a. " + TEN + " " + TEN + "k", 24, LONG, 1);
        fault("a b c d e f g h " + TEN + "k", 26, LONG, 0);
        fault("a.".repeat(11) + TEN + "k.", 32, LONG, 11);
        fault(TEN, 10, OPEN, 0);
    }

    private static void reasonEmpty() {
        DUE.says("3 EMPTY: a blank or a dot where a WORD ought to begin");
        fault(" ", 0, EMPTY, 0);
        fault(".", 0, EMPTY, 0);
        fault("a  ", 2, EMPTY, 0);
        fault("a .", 2, EMPTY, 0);
        fault("a..", 2, EMPTY, 1);
        fault("a.  ", 3, EMPTY, 1);
        fault("a. .", 3, EMPTY, 1);
        fault(NINE + "  ", 18, EMPTY, 0);
        fault(NINE + " .", 18, EMPTY, 0);
        fault(TWELVE + ".", 24, EMPTY, 12);
        fault(TWELVE + "  ", 25, EMPTY, 12);
        fault(TWELVE + " .", 25, EMPTY, 12);
    }

    private static void reasonMany() {
        DUE.says("4 MANY: the first byte of a thirteenth SENTENCE, or of a tenth WORD");
        fault(TWELVE + "m", 24, MANY, 12);
        fault(TWELVE + " m", 25, MANY, 12);
        fault(TWELVE + " " + TEN + "k", 25, MANY, 12);
        fault(NINE + " j", 18, MANY, 0);
        fault("a. " + NINE + " " + TEN + "k", 21, MANY, 1);
        fault("a.".repeat(11) + NINE + " j", 40, MANY, 11);
        fault(NINE + " ", 18, OPEN, 0);
        well(TWELVE + " ", 12, 12);
    }

    private static void reasonOpen() {
        DUE.says("5 OPEN: its end");
        fault("a", 1, OPEN, 0);
        fault("ab ", 3, OPEN, 0);
        fault("a. b", 4, OPEN, 1);
        fault(NINE, 17, OPEN, 0);
        fault("a.".repeat(11) + "l", 23, OPEN, 11);
    }

    private static void faultSentence() {
        DUE.says("and the SENTENCE in which it is (as many as have a dot ahead)");
        for (int dots = 0; dots <= 12; dots++) fault("a.".repeat(dots) + "A", 2 * dots, STRANGE, dots);
        for (int dots = 1; dots <= 12; dots++) fault("a.".repeat(dots) + " A", 2 * dots + 1, STRANGE, dots);
    }

    /** All that rests on the text answers as with a new object; the bytes themselves stay. */
    private static void asIfEmpty() {
        DUE.says("With a FAULT it is as if it was empty.");
        String[] texts = {"aa bb aa. bb aa. cc", "aa bb. aa. bb..", "aa. aa. A", TWELVE + "m.", NINE + " j.",
            "aa. aa. " + TEN + "k."};
        for (String text : texts) {
            TopicSeams x = Due.of(text);
            TopicSeams empty = new TopicSeams();
            for (int what = 1; what <= 4; what++) DUE.is("count(" + what + ") of " + text, x.count(what), 0);
            for (int k = 1; k <= 8; k++) {
                DUE.is("best(" + k + ")", x.best(k), empty.best(k));
                DUE.is("seam(" + k + ", 0)", x.seam(k, 0), empty.seam(k, 0));
                DUE.is("drop(" + k + ", 0)", x.drop(k, 0), empty.drop(k, 0));
                DUE.is("drop(" + k + ", 1)", x.drop(k, 1), empty.drop(k, 1));
                DUE.is("apart(" + k + ", 1)", x.apart(k, 1), empty.apart(k, 1));
            }
            DUE.is("sentence(0, 0)", x.sentence(0, 0), empty.sentence(0, 0));
            DUE.is("word(0, 0)", x.word(0, 0), empty.word(0, 0));
            DUE.is("stem(0, 0)", x.stem(0, 0), empty.stem(0, 0));
            DUE.is("letter(0, 0)", x.letter(0, 0), empty.letter(0, 0));
            DUE.is("chains()", x.chains(), empty.chains());
            DUE.is("chain(0, 0)", x.chain(0, 0), empty.chain(0, 0));
            DUE.is("over(1, 0)", x.over(1, 0), empty.over(1, 0));
            DUE.is("gap(1, 0)", x.gap(1, 0), empty.gap(1, 0));
            DUE.is("deep(0)", x.deep(0), empty.deep(0));
            DUE.is("cost(0, 0)", x.cost(0, 0), empty.cost(0, 0));
            DUE.is("cost(0, 1)", x.cost(0, 1), empty.cost(0, 1));
            DUE.is("bent()", x.bent(), empty.bent());
            x.sheet(0, 0, 3);
            DUE.is("write(1, 0)", x.write(1, 0), 0);
            DUE.is("wipe()", x.wipe(), text.length());
        }
    }

    /** What an earlier text left behind must not tell of a later one. */
    private static void faultFoundAnew() {
        DUE.says("The FAULT of THE TEXT");
        String[] ahead = {"", "a", "a.", "a. ", TEN, NINE, NINE + " ", TWELVE, "A", "a..", TEN + "k"};
        for (String before : ahead) {
            TopicSeams x = Due.of(before);
            x.fault(0);
            x.wipe();
            x.type('.');
            fault(x, ". behind " + before, 0, EMPTY, 0);
            x.wipe();
            x.type(' ');
            fault(x, "blank behind " + before, 0, EMPTY, 0);
            Due.retype(x, before);
            x.fault(0);
            Due.retype(x, TEN);
            fault(x, TEN + " behind " + before, 10, OPEN, 0);
            Due.retype(x, before);
            x.fault(0);
            Due.retype(x, NINE + ".");
            fault(x, NINE + ". behind " + before, -1, -1, -1);
        }
    }

    private static void newObject() {
        DUE.says("No TEXT, RULE 0, FEE 3, LINK 2, WINDOW 2, nothing TOLD; all SHEETS are LOST.");
        DUE.is("bytes", new TopicSeams().wipe(), 0);
        DUE.is("undo()", new TopicSeams().undo(), TopicSeams.NOT);
        int[] first = {0, 3, 2, 2};
        for (int what = 0; what < 4; what++) DUE.is("set(" + what + ", 1)", new TopicSeams().set(what, 1), first[what]);
        DUE.is("tell(0)", new TopicSeams().tell(0), 0);
        for (int s = 0; s < 4; s++) DUE.is("lose(" + s + ")", new TopicSeams().lose(s), Due.NULL);
    }

    private static void type() {
        DUE.says("A byte (0 to 255) comes behind THE TEXT: how many. BAD; FULL.");
        int[] none = {-1, 256, -128, -256, 1000, LEAST, GREATEST};
        TopicSeams x = new TopicSeams();
        for (int b : none) DUE.is("type(" + b + ")", x.type(b), TopicSeams.BAD);
        DUE.is("none came", x.count(0), 0);
        DUE.is("type(0)", x.type(0), 1);
        DUE.is("type(255)", x.type(255), 2);
        for (int n = 3; n <= 200; n++) DUE.is("type, the byte " + n, x.type('a'), n);
        DUE.is("type(0) to a full one", x.type(0), TopicSeams.FULL);
        DUE.is("type(255) to a full one", x.type(255), TopicSeams.FULL);
        for (int b : none) DUE.is("type(" + b + ") to a full one", x.type(b), TopicSeams.BAD);
        DUE.is("undo()", x.undo(), 199);
        DUE.is("the 200th again", x.type('a'), 200);
    }

    private static void wipe() {
        DUE.says("THE TEXT is empty: how many bytes it had.");
        TopicSeams x = new TopicSeams();
        DUE.is("wipe() of none", x.wipe(), 0);
        x.type(0);
        DUE.is("wipe() of one", x.wipe(), 1);
        DUE.is("wipe() again", x.wipe(), 0);
        Due.typeAll(x, full());
        DUE.is("SENTENCES of the full one", x.count(1), 12);
        DUE.is("wipe() of all", x.wipe(), 200);
        DUE.is("bytes", x.count(0), 0);
        DUE.is("SENTENCES", x.count(1), 0);
        DUE.is("type() again", x.type('a'), 1);
    }

    private static void undo() {
        DUE.says("The last byte is undone: how many are left. NOT: it is empty.");
        TopicSeams x = new TopicSeams();
        DUE.is("undo() of none", x.undo(), TopicSeams.NOT);
        x.type('a');
        DUE.is("undo() of one", x.undo(), 0);
        DUE.is("undo() again", x.undo(), TopicSeams.NOT);
        x.type('a');
        x.wipe();
        DUE.is("undo() behind wipe()", x.undo(), TopicSeams.NOT);
        Due.typeAll(x, full());
        DUE.is("undo() of a full one", x.undo(), 199);
        DUE.is("now it is open", x.fault(1), OPEN);
        DUE.is("type() the same", x.type('.'), 200);
        DUE.is("well again", x.fault(1), TopicSeams.NONE);
        x.type(999);
        DUE.is("undo() behind a refusal", x.undo(), 199);
    }

    private static void faultAsked() {
        DUE.says("The FAULT: the place (what = 0), the REASON (1), the SENTENCE (2); NONE. BAD.");
        String[] texts = {"", "a.", "a", "A"};
        int[] none = {-1, 3, LEAST, GREATEST};
        for (String text : texts) {
            for (int what : none) DUE.is("fault(" + what + ") of '" + text + "'", Due.of(text).fault(what), TopicSeams.BAD);
        }
        fault("", -1, -1, -1);
        fault("a.", -1, -1, -1);
    }

    private static void set(int what, int least, int most, int first) {
        TopicSeams x = new TopicSeams();
        int[] none = {least - 1, most + 1, LEAST, GREATEST};
        for (int v : none) DUE.is("set(" + what + ", " + v + ")", x.set(what, v), TopicSeams.BAD);
        DUE.is("set(" + what + ") to the least", x.set(what, least), first);
        int was = least;
        for (int v = least; v <= most; v++) {
            DUE.is("set(" + what + ", " + v + ")", x.set(what, v), was);
            was = v;
        }
        for (int v : none) DUE.is("set(" + what + ", " + v + ") again", x.set(what, v), TopicSeams.BAD);
        DUE.is("set(" + what + ") from the most", x.set(what, least), most);
    }

    private static void set() {
        DUE.says("by RULE (0 to 3; 0 at first)");
        set(0, 0, 3, 0);
        DUE.says("To each FEE (0 to 40; 3 at first) is added.");
        set(1, 0, 40, 3);
        DUE.says("LINK (1 to 4; 2 at first)");
        set(2, 1, 4, 2);
        DUE.says("WINDOW (1 to 4; 2 at first)");
        set(3, 1, 4, 2);
        DUE.says("RULE (what = 0), FEE (1), LINK (2), WINDOW (3): what it was. BAD.");
        TopicSeams x = new TopicSeams();
        int[] none = {-1, 4, LEAST, GREATEST};
        for (int what : none) {
            for (int v = 0; v <= 4; v++) DUE.is("set(" + what + ", " + v + ")", x.set(what, v), TopicSeams.BAD);
        }
        DUE.is("RULE is as it was", x.count(5), 0);
        DUE.is("FEE is as it was", x.count(6), 3);
        DUE.is("LINK is as it was", x.set(2, 1), 2);
        DUE.is("WINDOW is as it was", x.set(3, 1), 2);
        DUE.is("each has its own", x.count(5) * 100 + x.count(6), 3);
    }

    private static void tell() {
        DUE.says("GAPS 1 to 11, as bits (bit 1 on), are TOLD: what was TOLD. BAD: other bits (0 to 4094).");
        TopicSeams x = new TopicSeams();
        int was = 0;
        for (int g = 1; g <= 11; g++) {
            DUE.is("tell GAP " + g, x.tell(1 << g), was);
            was = 1 << g;
        }
        DUE.is("tell(4094)", x.tell(4094), was);
        int[] none = {1, 3, 4095, 4096, 4097, 8190, -1, -2, 1 << 30, LEAST, LEAST | 2, GREATEST};
        for (int bits : none) {
            DUE.is("tell(" + bits + ")", x.tell(bits), TopicSeams.BAD);
            DUE.is("it stays", x.count(7), 4094);
        }
        DUE.is("tell(0)", x.tell(0), 4094);
        DUE.is("tell(0) again", x.tell(0), 0);
    }

    private static void read() {
        DUE.says("Bytes from a SHEET come behind THE TEXT: its items, as many as may: how many. BAD; NULL.");
        TopicSeams x = new TopicSeams();
        int[] none = {-1, 4, LEAST, GREATEST};
        for (int s : none) DUE.is("read(" + s + ")", x.read(s), TopicSeams.BAD);
        DUE.is("BAD is no FINDING", x.count(8), 0);
        for (int s = 0; s < 4; s++) DUE.is("read(" + s + ") of a LOST one", x.read(s), Due.NULL);
        DUE.is("NULL", x.count(8), 1);
        x.sheet(0, 0, 0);
        DUE.is("read(0) of no items", x.read(0), 0);
        x.sheet(3, 2, 60);
        for (int i = 0; i < 60; i++) x.put(3, 2, i, i == 59 ? '.' : 'a');
        for (int times = 1; times <= 3; times++) DUE.is("read(3) of 60", x.read(3), 60);
        DUE.is("read(3), as many as may", x.read(3), 20);
        DUE.is("read(3) to a full one", x.read(3), 0);
        DUE.is("bytes", x.count(0), 200);
        x.undo();
        DUE.is("read(3) where one may", x.read(3), 1);
        x.wipe();
        for (int i = 0; i < 140; i++) x.type('b');
        DUE.is("read(3) where all just may", x.read(3), 60);
        DUE.is("bytes again", x.count(0), 200);
        x.lose(3);
        DUE.is("read(3) LOST, to a full one", x.read(3), Due.NULL);
        DUE.is("read(4) to a full one", x.read(4), TopicSeams.BAD);
    }
}
