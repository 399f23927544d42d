/** Promises 1 to 8: a new object, the text, its fault, numbers, what is told, read. */
public final class TextPromises {
    private static final Due DUE = new Due();
    private static final String TWELVE = "a.b.c.d.e.f.g.h.i.j.k.l.";
    private static final String NINE = "a b c d e f g h i";

    public static void main(String[] args) {
        newObject();
        type();
        wipe();
        undo();
        wellTexts();
        strange();
        longWords();
        emptyWords();
        many();
        open();
        firstFaultCounts();
        faultEmpties();
        faultMended();
        faultWrongInput();
        set();
        setWorks();
        tell();
        read();
        readForms();
        readStops();
        readEdges();
        readFull();
        DUE.end();
    }

    private static void newObject() {
        TopicSeams x = new TopicSeams();
        for (int what = 0; what <= 4; what++) DUE.is("1: new count " + what, x.count(what), 0);
        DUE.is("1: new RULE", x.count(5), 0);
        DUE.is("1: new FEE", x.count(6), 3);
        DUE.is("1: nothing TOLD", x.count(7), 0);
        DUE.is("1: no FINDING", x.count(8), 0);
        DUE.is("1: no fault", x.fault(0), TopicSeams.NONE);
        DUE.is("1: RULE", x.set(0, 1), 0);
        DUE.is("1: FEE", x.set(1, 1), 3);
        DUE.is("1: LINK", x.set(2, 1), 2);
        DUE.is("1: WINDOW", x.set(3, 1), 2);
        DUE.is("1: TOLD", x.tell(2), 0);
        for (int s = 0; s < 4; s++) DUE.is("1: SHEET is LOST", x.lose(s), Due.NULL);
        DUE.is("1: constants", TopicSeams.NONE * 1000 + TopicSeams.BAD * 100 + TopicSeams.NOT * 10 + TopicSeams.FULL, -1234);
        TopicSeams other = new TopicSeams();
        DUE.is("1: objects share no numbers", other.count(5), 0);
        DUE.is("1: objects share no findings", other.count(8), 0);
    }

    private static void type() {
        TopicSeams x = new TopicSeams();
        DUE.is("2: type(0)", x.type(0), 1);
        DUE.is("2: type(255)", x.type(255), 2);
        DUE.is("2: type(-1)", x.type(-1), TopicSeams.BAD);
        DUE.is("2: type(256)", x.type(256), TopicSeams.BAD);
        DUE.is("2: type least", x.type(Integer.MIN_VALUE), TopicSeams.BAD);
        DUE.is("2: type greatest", x.type(Integer.MAX_VALUE), TopicSeams.BAD);
        DUE.is("2: BAD changes nothing", x.count(0), 2);
        for (int i = 3; i <= 200; i++) DUE.is("2: type", x.type('a'), i);
        DUE.is("2: FULL", x.type('a'), TopicSeams.FULL);
        DUE.is("2: BAD ahead of FULL", x.type(256), TopicSeams.BAD);
        DUE.is("2: FULL changes nothing", x.count(0), 200);
        DUE.is("2: no FINDING", x.count(8), 0);
        DUE.is("2: a byte less", x.undo(), 199);
        DUE.is("2: a byte more", x.type('.'), 200);
    }

    private static void wipe() {
        TopicSeams x = Due.of("ab. cd.");
        x.set(1, 7);
        x.tell(6);
        x.sheet(1, 2, 5);
        DUE.is("3: ahead", x.best(2), 18);
        DUE.is("3: wipe", x.wipe(), 7);
        DUE.is("3: no BEST", x.best(2), TopicSeams.NONE);
        DUE.is("3: empty", x.count(0), 0);
        DUE.is("3: no sentences", x.count(1), 0);
        DUE.is("3: again", x.wipe(), 0);
        DUE.is("3: FEE stays", x.count(6), 7);
        DUE.is("3: TOLD stays", x.count(7), 6);
        DUE.is("3: SHEETS stay", x.lose(1), 5);
        DUE.is("3: type from the start", x.type('a'), 1);
    }

    private static void undo() {
        TopicSeams x = new TopicSeams();
        DUE.is("4: NOT", x.undo(), TopicSeams.NOT);
        Due.typeAll(x, "a.b");
        DUE.is("4: ahead", x.fault(1), 5);
        DUE.is("4: undo", x.undo(), 2);
        DUE.is("4: well again", x.fault(1), TopicSeams.NONE);
        DUE.is("4: sentences", x.count(1), 1);
        DUE.is("4: undo", x.undo(), 1);
        DUE.is("4: open again", x.fault(1), 5);
        DUE.is("4: undo", x.undo(), 0);
        DUE.is("4: NOT again", x.undo(), TopicSeams.NOT);
        DUE.is("4: an empty one is well", x.fault(1), TopicSeams.NONE);
        x.sheet(0, 0, 3);
        x.read(0);
        DUE.is("4: of what was read one byte", x.undo(), 2);
    }

    private static void fault(String text, int place, int reason, int sentence) {
        TopicSeams x = Due.of(text);
        DUE.is("5: place in '" + text + "'", x.fault(0), place);
        DUE.is("5: REASON in '" + text + "'", x.fault(1), reason);
        DUE.is("5: SENTENCE in '" + text + "'", x.fault(2), sentence);
    }

    private static void well(String text, int sentences) {
        fault(text, -1, -1, -1);
        DUE.is("5: sentences of '" + text + "'", Due.of(text).count(1), sentences);
    }

    private static void wellTexts() {
        well("", 0);
        well("a.", 1);
        well("a. ", 1);
        well("a.b.", 2);
        well("a. b.", 2);
        well("abcdefghij.", 1);
        well("abcdefghij abcdefghij. z.", 2);
        well(NINE + ".", 1);
        well(NINE + ". " + NINE + ".", 2);
        well(TWELVE, 12);
        well(TWELVE + " ", 12);
    }

    private static void strange() {
        int[] bytes = {0, 9, 10, 13, 31, 33, 44, 45, 47, '0', 'A', 'Z', 96, 123, 127, 128, 255};
        for (int b : bytes) {
            fault("" + (char) b, 0, 1, 0);
            fault("a" + (char) b + ".", 1, 1, 0);
            fault("a." + (char) b, 2, 1, 1);
            fault("a. " + (char) b, 3, 1, 1);
            fault("abcdefghij" + (char) b, 10, 1, 0);
            fault(TWELVE + (char) b, 24, 1, 12);
            fault(NINE + " " + (char) b, 18, 1, 0);
        }
    }

    private static void longWords() {
        fault("abcdefghijk", 10, 2, 0);
        fault("abcdefghijk.", 10, 2, 0);
        fault("a.abcdefghijklm.", 12, 2, 1);
        fault("a. b abcdefghijk", 15, 2, 1);
    }

    private static void emptyWords() {
        fault(" ", 0, 3, 0);
        fault(".", 0, 3, 0);
        fault(" a.", 0, 3, 0);
        fault("a  b.", 2, 3, 0);
        fault("a .", 2, 3, 0);
        fault("a..", 2, 3, 1);
        fault("a.  b.", 3, 3, 1);
        fault("a. .", 3, 3, 1);
        fault(TWELVE + ".", 24, 3, 12);
        fault(TWELVE + "  ", 25, 3, 12);
        fault(NINE + " .", 18, 3, 0);
        fault(NINE + "  ", 18, 3, 0);
    }

    private static void many() {
        fault(TWELVE + "m", 24, 4, 12);
        fault(TWELVE + " m", 25, 4, 12);
        fault(TWELVE + "m.", 24, 4, 12);
        fault(NINE + " j", 18, 4, 0);
        fault(NINE + " j.", 18, 4, 0);
        fault("z. " + NINE + " j.", 21, 4, 1);
    }

    private static void open() {
        fault("a", 1, 5, 0);
        fault("ab", 2, 5, 0);
        fault("a ", 2, 5, 0);
        fault("a.b", 3, 5, 1);
        fault("a. b c", 6, 5, 1);
        fault(NINE, 17, 5, 0);
        fault(NINE + " ", 18, 5, 0);
        fault("a.".repeat(11) + "b", 23, 5, 11);
        StringBuilder full = new StringBuilder();
        while (full.length() < 200) full.append("abcdefghi ".repeat(8)).append("abcdefghi.");
        full.setLength(199);
        fault(full + "a", 200, 5, 2);
    }

    private static void firstFaultCounts() {
        fault("a..A", 2, 3, 1);
        fault("A..", 0, 1, 0);
        fault("abcdefghijkA", 10, 2, 0);
    }

    private static void faultEmpties() {
        TopicSeams x = Due.of("aa bb aa. bb aa. cc");
        DUE.is("5: bytes stay", x.count(0), 19);
        for (int what = 1; what <= 4; what++) DUE.is("5: as if empty, count " + what, x.count(what), 0);
        DUE.is("5: no sentence", x.sentence(0, 0), TopicSeams.BAD);
        DUE.is("5: no word", x.word(0, 0), TopicSeams.BAD);
        DUE.is("5: no stem", x.stem(0, 0), TopicSeams.BAD);
        DUE.is("5: no letter", x.letter(0, 0), TopicSeams.BAD);
        DUE.is("5: no chain", x.chain(0, 0), TopicSeams.NONE);
        DUE.is("5: no gap", x.gap(1, 0), TopicSeams.BAD);
        DUE.is("5: no over", x.over(1, 0), TopicSeams.BAD);
        DUE.is("5: no block", x.cost(0, 1), TopicSeams.BAD);
        DUE.is("5: no best", x.best(1), TopicSeams.NONE);
        DUE.is("5: no drop", x.drop(1, 0), TopicSeams.NONE);
        DUE.is("5: no bent", x.bent(), 0);
        DUE.is("5: no deep", x.deep(0), TopicSeams.NONE);
        DUE.is("5: no apart", x.apart(1, 1), TopicSeams.NONE);
    }

    private static void faultMended() {
        TopicSeams x = Due.of("aa bb aa. bb aa. cc");
        DUE.is("5: open", x.fault(1), 5);
        x.type('.');
        DUE.is("5: mended", x.fault(1), TopicSeams.NONE);
        DUE.is("5: sentences are there", x.count(1), 3);
        DUE.is("5: chains are there", x.chains(), 2);
        DUE.is("5: best is there", x.best(1), 9);
        x.type('.');
        DUE.is("5: spoiled", x.fault(1), 3);
        DUE.is("5: best is gone", x.best(1), TopicSeams.NONE);
        DUE.is("5: chains are gone", x.chains(), 0);
        x.undo();
        DUE.is("5: best is there again", x.best(1), 9);
    }

    private static void faultWrongInput() {
        TopicSeams x = Due.of("A");
        DUE.is("5: BAD", x.fault(-1), TopicSeams.BAD);
        DUE.is("5: BAD", x.fault(3), TopicSeams.BAD);
        DUE.is("5: BAD", new TopicSeams().fault(3), TopicSeams.BAD);
    }

    private static void set() {
        int[] first = {0, 3, 2, 2};
        int[] least = {0, 0, 1, 1};
        int[] most = {3, 40, 4, 4};
        TopicSeams x = new TopicSeams();
        for (int what = 0; what < 4; what++) {
            DUE.is("6: below", x.set(what, least[what] - 1), TopicSeams.BAD);
            DUE.is("6: above", x.set(what, most[what] + 1), TopicSeams.BAD);
            DUE.is("6: far below", x.set(what, Integer.MIN_VALUE), TopicSeams.BAD);
            DUE.is("6: far above", x.set(what, Integer.MAX_VALUE), TopicSeams.BAD);
            DUE.is("6: to the least", x.set(what, least[what]), first[what]);
            DUE.is("6: to the most", x.set(what, most[what]), least[what]);
            DUE.is("6: BAD changes nothing", x.set(what, most[what] + 1), TopicSeams.BAD);
            DUE.is("6: what it was", x.set(what, most[what]), most[what]);
        }
        DUE.is("6: count tells RULE", x.count(5), 3);
        DUE.is("6: count tells FEE", x.count(6), 40);
        DUE.is("6: no such number", x.set(-1, 1), TopicSeams.BAD);
        DUE.is("6: no such number", x.set(4, 1), TopicSeams.BAD);
        DUE.is("6: no such number", x.set(Integer.MAX_VALUE, 1), TopicSeams.BAD);
    }

    /** Each number works at once, also when what rests on it has been asked before. */
    private static void setWorks() {
        TopicSeams x = Due.of("a b. a. c. a b. b.");
        DUE.is("6: best by RULE 0", x.best(1), 9);
        DUE.is("6: drop by RULE 0", x.drop(1, 1), 7);
        x.set(0, 1);
        DUE.is("6: best by RULE 1", x.best(1), 12);
        DUE.is("6: drop by RULE 1", x.drop(1, 1), 7);
        x.set(1, 0);
        DUE.is("6: best without FEE", x.best(1), 9);
        DUE.is("6: drop without FEE", x.drop(1, 1), 4);
        DUE.is("6: chains by LINK 2", x.chains(), 2);
        DUE.is("6: alike by WINDOW 2", x.gap(2, 0), 2);
        x.set(2, 1);
        x.set(3, 1);
        DUE.is("6: chains by LINK 1", x.chains(), 2);
        DUE.is("6: their first ends sooner", x.chain(0, 2), 1);
        DUE.is("6: alike by WINDOW 1", x.gap(2, 0), 0);
    }

    private static void tell() {
        TopicSeams x = new TopicSeams();
        DUE.is("7: nothing yet", x.tell(2), 0);
        DUE.is("7: GAP 1", x.tell(2048), 2);
        DUE.is("7: GAP 11", x.tell(4094), 2048);
        DUE.is("7: bit 0", x.tell(1), TopicSeams.BAD);
        DUE.is("7: bit 0 with others", x.tell(4095), TopicSeams.BAD);
        DUE.is("7: bit 12", x.tell(4096), TopicSeams.BAD);
        DUE.is("7: below 0", x.tell(-2), TopicSeams.BAD);
        DUE.is("7: the least int", x.tell(Integer.MIN_VALUE), TopicSeams.BAD);
        DUE.is("7: BAD changes nothing", x.count(7), 4094);
        DUE.is("7: all", x.tell(0), 4094);
        DUE.is("7: none", x.count(7), 0);
    }

    private static void read() {
        TopicSeams x = new TopicSeams();
        DUE.is("8: BAD", x.read(-1), TopicSeams.BAD);
        DUE.is("8: BAD", x.read(4), TopicSeams.BAD);
        DUE.is("8: BAD is no FINDING", x.count(8), 0);
        DUE.is("8: NULL", x.read(3), Due.NULL);
        DUE.is("8: NULL is found", x.count(8), 1);
        x.sheet(3, 0, 3);
        x.put(3, 0, 0, 'a');
        x.put(3, 0, 1, 'b');
        x.put(3, 0, 2, '.');
        DUE.is("8: read", x.read(3), 3);
        DUE.is("8: bytes", x.count(0), 3);
        DUE.is("8: a sentence", x.count(1), 1);
        DUE.is("8: read behind", x.read(3), 3);
        DUE.is("8: bytes", x.count(0), 6);
        DUE.is("8: two sentences", x.count(1), 2);
        DUE.is("8: the second", x.sentence(1, 3), 3);
        DUE.is("8: the SHEET stays", x.get(3, 0, 1), 'b');
        x.sheet(0, 0, 0);
        DUE.is("8: no items", x.read(0), 0);
    }

    private static TopicSeams withItems(int form, int... items) {
        TopicSeams x = new TopicSeams();
        x.sheet(0, form, items.length);
        for (int i = 0; i < items.length; i++) x.put(0, form, i, items[i]);
        return x;
    }

    private static void readForms() {
        for (int form = 0; form <= 2; form++) {
            TopicSeams x = withItems(form, 'a', '.');
            DUE.is("8: read of form " + form, x.read(0), 2);
            DUE.is("8: well", x.fault(1), TopicSeams.NONE);
            DUE.is("8: the letter", x.letter(0, 0), 'a');
        }
    }

    /** An item that is not 0 to 255 may not come, and those behind it do not come either. */
    private static void readStops() {
        for (int form = 0; form <= 2; form++) readStopsAt(form, -1);
        readStopsAt(0, 128);
        readStopsAt(0, 255);
        readStopsAt(0, Byte.MIN_VALUE);
        for (int form = 1; form <= 2; form++) {
            readStopsAt(form, 256);
            readStopsAt(form, 256 + 'a');
            readStopsAt(form, 'a' - 256);
            readStopsAt(form, Short.MIN_VALUE);
            readStopsAt(form, Short.MAX_VALUE);
        }
        readStopsAt(1, 65535);
        readStopsAt(2, 65536 + 'a');
        readStopsAt(2, Integer.MIN_VALUE);
        readStopsAt(2, Integer.MAX_VALUE);
    }

    private static void readStopsAt(int form, int item) {
        String at = " at " + item + " of form " + form;
        TopicSeams first = withItems(form, item, 'a', '.');
        DUE.is("8: none comes" + at, first.read(0), 0);
        DUE.is("8: no bytes" + at, first.count(0), 0);
        DUE.is("8: it stays well" + at, first.fault(0), TopicSeams.NONE);
        DUE.is("8: no FINDING" + at, first.count(8), 0);
        TopicSeams later = withItems(form, 'a', '.', item, 'b');
        DUE.is("8: two come" + at, later.read(0), 2);
        DUE.is("8: a sentence" + at, later.count(1), 1);
        DUE.is("8: two come again" + at, later.read(0), 2);
        DUE.is("8: four bytes" + at, later.count(0), 4);
    }

    /** Bytes that no text can go on with may come all the same: they are the FAULT's matter. */
    private static void readEdges() {
        TopicSeams bytes = withItems(0, 0, 127);
        DUE.is("8: 0 and 127 come", bytes.read(0), 2);
        DUE.is("8: 0 is STRANGE", bytes.fault(1), 1);
        for (int form = 1; form <= 2; form++) {
            TopicSeams x = withItems(form, 'a', 0, 128, 255);
            DUE.is("8: 0, 128 and 255 come of form " + form, x.read(0), 4);
            DUE.is("8: STRANGE of form " + form, x.fault(1), 1);
            DUE.is("8: STRANGE at of form " + form, x.fault(0), 1);
        }
        TopicSeams full = withItems(1, 'a', -1);
        for (int i = 0; i < 200; i++) full.type('a');
        DUE.is("8: none may, whatever the items", full.read(0), 0);
        full.undo();
        DUE.is("8: the one that may", full.read(0), 1);
        DUE.is("8: bytes", full.count(0), 200);
    }

    private static void readFull() {
        TopicSeams x = new TopicSeams();
        x.sheet(1, 1, 60);
        for (int i = 0; i < 60; i++) x.put(1, 1, i, i % 2 == 0 ? 'a' : '.');
        DUE.is("8: 60", x.read(1), 60);
        DUE.is("8: 120", x.read(1), 60);
        DUE.is("8: 180", x.read(1), 60);
        DUE.is("8: as many as may", x.read(1), 20);
        DUE.is("8: bytes", x.count(0), 200);
        DUE.is("8: none may", x.read(1), 0);
        DUE.is("8: FULL", x.type('a'), TopicSeams.FULL);
        DUE.is("8: too many sentences", x.fault(1), 4);
        DUE.is("8: at", x.fault(0), 24);
    }
}
