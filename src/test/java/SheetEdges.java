import java.math.BigInteger;

/** The edges that the document names for sheets, findings, counts and the digest, sentence by sentence. */
public final class SheetEdges {
    private static final Due DUE = new Due();
    private static final int LEAST = Integer.MIN_VALUE, GREATEST = Integer.MAX_VALUE;
    private static final int[] NO_SHEET = {-1, 4, LEAST, GREATEST};
    private static final int[] NO_FORM = {-1, 3, LEAST, GREATEST};
    private static final String TWELVE = "a.b.c.d.e.f.g.h.i.j.k.l.";

    public static void main(String[] args) {
        lostAtFirst();
        forms();
        newRow();
        sheetRefusals();
        findings();
        sheetSize();
        lose();
        put();
        lowestBits();
        get();
        copyAsTheyWere();
        copyEnds();
        copyRefusals();
        writeAsMany();
        writeNoBest();
        writeRefusals();
        count();
        latestFinding();
        digestWraps();
        digestSigns();
        DUE.end();
    }

    private static void lostAtFirst() {
        DUE.says("SHEETS 0 .. 3 are LOST (at first)");
        for (int s = 0; s <= 3; s++) {
            DUE.is("lose(" + s + ")", new TopicSeams().lose(s), Due.NULL);
            DUE.is("read(" + s + ")", new TopicSeams().read(s), Due.NULL);
            DUE.is("put(" + s + ", 0, 0, 0)", new TopicSeams().put(s, 0, 0, 0), Due.NULL);
            DUE.is("copy(" + s + ", 0, " + s + ", 0, 0)", new TopicSeams().copy(s, 0, s, 0, 0), Due.NULL);
            DUE.is("write(1, " + s + ")", new TopicSeams().write(1, s), Due.NULL);
            TopicSeams x = new TopicSeams();
            DUE.is("get(" + s + ", 0, 0)", x.get(s, 0, 0), LEAST);
            DUE.is("count(8)", x.count(8), 1);
        }
    }

    private static void forms() {
        DUE.says("a row of a FORM: 0 bytes, 1 shorts, 2 ints, of 0 to 60 items (0 at first)");
        for (int form = 0; form <= 2; form++) {
            TopicSeams x = new TopicSeams();
            DUE.is("sheet(0, " + form + ", 60)", x.sheet(0, form, 60), 60);
            for (int i = 0; i < 60; i++) DUE.is("get(0, " + form + ", " + i + ")", x.get(0, form, i), 0);
            DUE.is("count(8)", x.count(8), 0);
            DUE.is("get(0, " + form + ", 60)", x.get(0, form, 60), LEAST);
            DUE.is("count(8), INDEX", x.count(8), 2);
            for (int i = 0; i < 60; i++) x.put(0, form, i, 9);
            DUE.is("sheet(0, " + form + ", 60) anew", x.sheet(0, form, 60), 60);
            for (int i = 0; i < 60; i++) DUE.is("get(0, " + form + ", " + i + ") anew", x.get(0, form, i), 0);
            DUE.is("sheet(0, " + form + ", 0)", x.sheet(0, form, 0), 0);
            DUE.is("put(0, " + form + ", 0, 1)", x.put(0, form, 0, 1), Due.INDEX);
        }
    }

    private static void newRow() {
        DUE.says("A SHEET is a new row of a FORM with n items: n.");
        for (int s = 0; s <= 3; s++) {
            TopicSeams x = new TopicSeams();
            for (int n = 0; n <= 60; n++) DUE.is("sheet(" + s + ", " + n % 3 + ", " + n + ")", x.sheet(s, n % 3, n), n);
            DUE.is("its last item", x.get(s, 0, 59), 0);
            x.put(s, 0, 0, 5);
            for (int form = 0; form <= 2; form++) {
                x.sheet(s, form, 1);
                DUE.is("its item as of FORM " + form, x.get(s, form, 0), 0);
                DUE.is("the next", x.put(s, form, 1, 0), Due.INDEX);
                DUE.is("as of another FORM", x.put(s, (form + 1) % 3, 0, 0), Due.CAST);
                x.put(s, form, 0, 5);
            }
            for (int other = 0; other <= 3; other++) {
                if (other != s) DUE.is("lose(" + other + ")", x.lose(other), Due.NULL);
            }
        }
    }

    /** Sheets 0 to 2 are of the forms 0 to 2 with two items each, and 3 is LOST. */
    private static void findings() {
        TopicSeams x = new TopicSeams();
        for (int s = 0; s <= 2; s++) x.sheet(s, s, 2);
        DUE.says("1 NULL: the SHEET is LOST");
        for (int s = 0; s <= 3; s++) {
            DUE.is("put(" + s + ", " + s % 3 + ", 0, 1)", x.put(s, s % 3, 0, 1), s == 3 ? Due.NULL : 1);
        }
        DUE.says("2 INDEX: there is no such item");
        for (int i = -2; i <= 3; i++) DUE.is("put(1, 1, " + i + ", 1)", x.put(1, 1, i, 1), i < 0 || i > 1 ? Due.INDEX : 1);
        DUE.says("3 CAST: it has another FORM");
        for (int s = 0; s <= 2; s++) {
            for (int form = 0; form <= 2; form++) {
                DUE.is("put(" + s + ", " + form + ", 0, 1)", x.put(s, form, 0, 1), s == form ? 1 : Due.CAST);
            }
        }
        DUE.says("4 STORE: unlike FORMS");
        for (int s = 0; s <= 2; s++) {
            for (int t = 0; t <= 2; t++) {
                DUE.is("copy(" + s + ", 0, " + t + ", 0, 2)", x.copy(s, 0, t, 0, 2), s == t ? 1 : Due.STORE);
            }
        }
    }

    private static void sheetRefusals() {
        DUE.says("BAD: SHEET, FORM, above 60; SIZE.");
        TopicSeams x = new TopicSeams();
        for (int s : NO_SHEET) {
            DUE.is("sheet(" + s + ", 0, 1)", x.sheet(s, 0, 1), TopicSeams.BAD);
            DUE.is("sheet(" + s + ", 0, -1)", x.sheet(s, 0, -1), TopicSeams.BAD);
        }
        for (int form : NO_FORM) {
            DUE.is("sheet(0, " + form + ", 1)", x.sheet(0, form, 1), TopicSeams.BAD);
            DUE.is("sheet(0, " + form + ", -1)", x.sheet(0, form, -1), TopicSeams.BAD);
        }
        int[] above = {61, 62, 100, GREATEST};
        for (int n : above) DUE.is("sheet(0, 0, " + n + ")", x.sheet(0, 0, n), TopicSeams.BAD);
        DUE.is("BAD is no FINDING", x.count(8), 0);
        DUE.is("none was made", x.lose(0), Due.NULL);
        DUE.is("sheet(0, 0, 60)", x.sheet(0, 0, 60), 60);
    }

    private static void sheetSize() {
        DUE.says("5 SIZE: below 0");
        int[] below = {-1, -2, -60, LEAST};
        for (int n : below) {
            TopicSeams x = new TopicSeams();
            DUE.is("sheet(3, 2, " + n + ")", x.sheet(3, 2, n), Due.SIZE);
            DUE.is("count(8)", x.count(8), 5);
            DUE.is("none was made", x.lose(3), Due.NULL);
            x.sheet(3, 1, 4);
            x.put(3, 1, 3, 8);
            DUE.is("sheet(3, 2, " + n + ") where one is", x.sheet(3, 2, n), Due.SIZE);
            DUE.is("it is as it was", x.get(3, 1, 3), 8);
        }
        DUE.is("sheet(3, 2, 0)", new TopicSeams().sheet(3, 2, 0), 0);
    }

    private static void lose() {
        DUE.says("It is LOST: how many items it had. BAD; NULL.");
        TopicSeams x = new TopicSeams();
        for (int s : NO_SHEET) DUE.is("lose(" + s + ")", x.lose(s), TopicSeams.BAD);
        DUE.is("BAD is no FINDING", x.count(8), 0);
        int[] sizes = {0, 1, 59, 60};
        for (int s = 0; s < 4; s++) x.sheet(s, s % 3, sizes[s]);
        for (int s = 0; s < 4; s++) DUE.is("lose(" + s + ")", x.lose(s), sizes[s]);
        DUE.is("no FINDING yet", x.count(8), 0);
        for (int s = 0; s < 4; s++) DUE.is("lose(" + s + ") again", x.lose(s), Due.NULL);
        DUE.is("NULL", x.count(8), 1);
    }

    private static void put() {
        DUE.says("Item i, treated as of a FORM, becomes v (the lowest bits that it has): 1. BAD; NULL; CAST; INDEX.");
        for (int made = 0; made <= 2; made++) {
            TopicSeams x = new TopicSeams();
            for (int s : NO_SHEET) DUE.is("put(" + s + ", 0, 0, 1)", x.put(s, 0, 0, 1), TopicSeams.BAD);
            for (int form : NO_FORM) DUE.is("put(0, " + form + ", 0, 1) LOST", x.put(0, form, 0, 1), TopicSeams.BAD);
            DUE.is("put(0, " + made + ", 0, 1) LOST", x.put(0, made, 0, 1), Due.NULL);
            x.sheet(0, made, 3);
            for (int form : NO_FORM) DUE.is("put(0, " + form + ", 0, 1)", x.put(0, form, 0, 1), TopicSeams.BAD);
            int[] outside = {-1, 3, 60, LEAST, GREATEST};
            for (int form = 0; form <= 2; form++) {
                int due = form == made ? Due.INDEX : Due.CAST;
                for (int i : outside) DUE.is("put(0, " + form + ", " + i + ", 1), made " + made, x.put(0, form, i, 1), due);
                DUE.is("put(0, " + form + ", 2, 1), made " + made, x.put(0, form, 2, 1), form == made ? 1 : Due.CAST);
            }
            DUE.is("get(0, " + made + ", 2)", x.get(0, made, 2), 1);
            DUE.is("get(0, " + made + ", 0)", x.get(0, made, 0), 0);
        }
    }

    private static void lowestBits() {
        DUE.says("becomes v (the lowest bits that it has)");
        int[] values = {127, 128, 255, 256, -128, -129, -256, 32767, 32768, 65535, 65536, -32768, -32769, LEAST, GREATEST};
        int[] bytes = {127, -128, -1, 0, -128, 127, 0, -1, 0, -1, 0, 0, -1, 0, -1};
        int[] shorts = {127, 128, 255, 256, -128, -129, -256, 32767, -32768, -1, 0, -32768, 32767, 0, -1};
        TopicSeams x = new TopicSeams();
        for (int form = 0; form <= 2; form++) x.sheet(form, form, 1);
        for (int v = 0; v < values.length; v++) {
            for (int form = 0; form <= 2; form++) {
                DUE.is("put(" + form + ", " + form + ", 0, " + values[v] + ")", x.put(form, form, 0, values[v]), 1);
            }
            DUE.is("the byte of " + values[v], x.get(0, 0, 0), bytes[v]);
            DUE.is("the short of " + values[v], x.get(1, 1, 0), shorts[v]);
            DUE.is("the int of " + values[v], x.get(2, 2, 0), values[v]);
        }
    }

    private static void get(TopicSeams x, int s, int form, int i, int finding) {
        DUE.is("get(" + s + ", " + form + ", " + i + ")", x.get(s, form, i), LEAST);
        DUE.is("count(8) behind it", x.count(8), finding);
    }

    private static void get() {
        DUE.says("Item i of it. BAD: the least int; so are NULL, CAST, INDEX (count() 8 tells).");
        TopicSeams x = new TopicSeams();
        for (int s : NO_SHEET) get(x, s, 0, 0, 0);
        for (int form : NO_FORM) get(x, 0, form, 0, 0);
        get(x, 0, 0, 0, 1);
        x.sheet(0, 1, 3);
        get(x, 0, 0, 0, 3);
        get(x, 0, 1, 3, 2);
        get(x, 0, 2, 0, 3);
        get(x, 0, 1, -1, 2);
        get(x, 0, 0, 3, 3);
        get(x, 0, 1, LEAST, 2);
        get(x, 0, 2, -1, 3);
        get(x, 0, 1, GREATEST, 2);
        get(x, 1, 1, 0, 1);
        for (int s : NO_SHEET) get(x, s, 1, 0, 1);
        for (int form : NO_FORM) get(x, 0, form, 9, 1);
        x.sheet(2, 2, 1);
        x.put(2, 2, 0, LEAST);
        get(x, 2, 2, 0, 1);
    }

    private static TopicSeams rows() {
        TopicSeams x = new TopicSeams();
        x.sheet(0, 2, 6);
        x.sheet(1, 2, 4);
        x.sheet(2, 1, 6);
        for (int i = 0; i < 6; i++) x.put(0, 2, i, 10 + i);
        for (int i = 0; i < 4; i++) x.put(1, 2, i, 20 + i);
        return x;
    }

    private static void row(TopicSeams x, int s, int... due) {
        for (int i = 0; i < due.length; i++) DUE.is("get(" + s + ", 2, " + i + ")", x.get(s, 2, i), due[i]);
    }

    private static void copyAsTheyWere() {
        DUE.says("come to SHEET t (perhaps s, as they were), from j on: 1");
        int[] items = {10, 11, 12, 13, 14, 15};
        for (int i = 0; i <= 6; i++) {
            for (int j = 0; j <= 6; j++) {
                for (int n = 0; n <= 6 - Math.max(i, j); n++) {
                    TopicSeams x = rows();
                    DUE.is("copy(0, " + i + ", 0, " + j + ", " + n + ")", x.copy(0, i, 0, j, n), 1);
                    int[] due = items.clone();
                    System.arraycopy(items, i, due, j, n);
                    row(x, 0, due);
                }
            }
        }
    }

    private static void copyEnds() {
        DUE.says("INDEX: below 0, not so many.");
        int[] places = {LEAST, -1, 0, 1, 3, 4, 5, 6, 7, 60, GREATEST};
        int[] numbers = {LEAST, -1, 0, 1, 2, 3, 4, 5, 6, 7, GREATEST};
        for (int i : places) {
            for (int j : places) {
                TopicSeams x = rows();
                for (int n : numbers) {
                    boolean well = i >= 0 && j >= 0 && n >= 0 && (long) i + n <= 6 && (long) j + n <= 4;
                    DUE.is("copy(0, " + i + ", 1, " + j + ", " + n + ")", x.copy(0, i, 1, j, n), well ? 1 : Due.INDEX);
                    if (!well) DUE.is("count(8)", x.count(8), 2);
                }
                row(x, 0, 10, 11, 12, 13, 14, 15);
            }
        }
        TopicSeams x = rows();
        x.copy(0, 0, 1, 0, 5);
        x.copy(0, 3, 1, 0, 4);
        x.copy(0, 0, 1, 1, 4);
        row(x, 1, 20, 21, 22, 23);
    }

    private static void copyRefusals() {
        DUE.says("BAD: the SHEETS; NULL: s, t; STORE; INDEX");
        int[] sheets = {-1, 0, 1, 2, 3, 4, LEAST, GREATEST};
        for (int s : sheets) {
            for (int t : sheets) {
                boolean bad = s < 0 || s > 3 || t < 0 || t > 3;
                boolean lost = s == 3 || t == 3;
                boolean unlike = (s == 2) != (t == 2);
                int refused = bad ? TopicSeams.BAD : lost ? Due.NULL : unlike ? Due.STORE : 0;
                String call = "copy(" + s + ", i, " + t + ", j, n)";
                DUE.is(call + ", well but for these", rows().copy(s, 0, t, 0, 1), refused == 0 ? 1 : refused);
                DUE.is(call + ", none", rows().copy(s, 0, t, 0, 0), refused == 0 ? 1 : refused);
                DUE.is(call + ", i below 0", rows().copy(s, -1, t, 0, 1), refused == 0 ? Due.INDEX : refused);
                DUE.is(call + ", too many", rows().copy(s, 0, t, 0, 61), refused == 0 ? Due.INDEX : refused);
                TopicSeams x = rows();
                x.copy(s, 0, t, 0, 61);
                DUE.is("count(8) behind " + call, x.count(8), bad ? 0 : lost ? 1 : unlike ? 4 : 2);
            }
        }
    }

    private static void writeAsMany() {
        DUE.says("comes to a SHEET from item 0 on, as many as there are items, and blocks");
        for (int form = 0; form <= 2; form++) {
            for (int items = 0; items <= 9; items++) {
                for (int k = 1; k <= 8; k += 7) {
                    TopicSeams x = Due.of(TWELVE);
                    x.sheet(1, form, items);
                    for (int i = 0; i < items; i++) x.put(1, form, i, 77);
                    int came = Math.min(k, items);
                    DUE.is("write(" + k + ", 1) to " + items, x.write(k, 1), came);
                    for (int i = 0; i < items; i++) DUE.is("item " + i, x.get(1, form, i), i < came ? i : 77);
                    DUE.is("no FINDING", x.count(8), 0);
                }
            }
        }
    }

    private static void writeNoBest() {
        DUE.says("(none, where there is no BEST)");
        for (int n = 0; n <= 8; n++) {
            TopicSeams x = Due.of(TWELVE.substring(0, 2 * n));
            x.sheet(0, 2, 8);
            for (int k = 1; k <= 8; k++) {
                for (int i = 0; i < 8; i++) x.put(0, 2, i, 77);
                DUE.is("write(" + k + ", 0) of " + n, x.write(k, 0), k <= n ? k : 0);
                DUE.is("the first item", x.get(0, 2, 0), k <= n ? 0 : 77);
                DUE.is("the last item", x.get(0, 2, 7), k <= n && k == 8 ? 7 : 77);
            }
        }
    }

    private static void writeRefusals() {
        DUE.says("Where blocks of BEST into k parts begin comes to a SHEET");
        int[] noParts = {-1, 0, 9, LEAST, GREATEST};
        TopicSeams x = Due.of("a.b.");
        x.sheet(0, 0, 3);
        for (int k : noParts) {
            DUE.is("write(" + k + ", 0)", x.write(k, 0), TopicSeams.BAD);
            DUE.is("write(" + k + ", 1) LOST", x.write(k, 1), TopicSeams.BAD);
        }
        for (int s : NO_SHEET) DUE.is("write(1, " + s + ")", x.write(1, s), TopicSeams.BAD);
        DUE.is("BAD is no FINDING", x.count(8), 0);
        DUE.is("write(1, 1) LOST", x.write(1, 1), Due.NULL);
        DUE.is("count(8)", x.count(8), 1);
        DUE.is("write(3, 1) LOST, no BEST", x.write(3, 1), Due.NULL);
        DUE.is("write(2, 0)", x.write(2, 0), 2);
    }

    private static void count() {
        DUE.says("8 the number of the latest FINDING (0 before any). BAD.");
        int[] none = {-1, 9, LEAST, GREATEST};
        TopicSeams x = new TopicSeams();
        for (int what : none) DUE.is("count(" + what + ")", x.count(what), TopicSeams.BAD);
        int[] empty = {0, 0, 0, 0, 0, 0, 3, 0, 0};
        for (int what = 0; what <= 8; what++) DUE.is("count(" + what + ") of a new one", x.count(what), empty[what]);
        Due.typeAll(x, "a a a a a a a a a.".repeat(11) + "a.");
        x.set(0, 3);
        x.set(1, 40);
        x.tell(4094);
        x.sheet(0, 0, -1);
        int[] full = {200, 12, 100, 1, 1, 3, 40, 4094, 5};
        for (int what = 0; what <= 8; what++) DUE.is("count(" + what + ") of a full one", x.count(what), full[what]);
        for (int what : none) DUE.is("count(" + what + ") again", x.count(what), TopicSeams.BAD);
    }

    private static void latestFinding() {
        DUE.says("FINDINGS (answers -10 less the number; they change nothing but count() 8)");
        TopicSeams x = rows();
        DUE.is("0 before any", x.count(8), 0);
        DUE.is("NULL", x.lose(3), -11);
        DUE.is("count(8)", x.count(8), 1);
        DUE.is("INDEX", x.put(0, 2, 6, 0), -12);
        DUE.is("count(8)", x.count(8), 2);
        DUE.is("CAST", x.put(0, 1, 0, 0), -13);
        DUE.is("count(8)", x.count(8), 3);
        DUE.is("STORE", x.copy(0, 0, 2, 0, 1), -14);
        DUE.is("count(8)", x.count(8), 4);
        DUE.is("SIZE", x.sheet(0, 0, -1), -15);
        DUE.is("count(8)", x.count(8), 5);
        x.put(0, 2, 0, 1);
        x.copy(0, 0, 1, 0, 1);
        x.read(0);
        x.wipe();
        x.digest();
        DUE.is("count(8) stays behind what is well", x.count(8), 5);
        x.undo();
        x.best(0);
        x.type(256);
        x.put(4, 0, 0, 0);
        x.get(4, 0, 0);
        DUE.is("count(8) stays behind other refusals", x.count(8), 5);
    }

    private static BigInteger add(BigInteger h, long answer) {
        return h.multiply(BigInteger.valueOf(31)).add(BigInteger.valueOf(answer));
    }

    /** The sum without any bound, of which a long has the lowest 64 bits. */
    private static void digestWraps() {
        DUE.says("as longs that wrap");
        int[] numbers = {0, 0, 0, 0, 0, 0, 3, 0};
        BigInteger h = BigInteger.valueOf(17);
        for (int n : numbers) h = add(h, n);
        for (int i = 0; i < 3; i++) h = add(h, TopicSeams.NONE);
        for (int it = 0; it <= 11; it++) {
            for (int i = 0; i < 10; i++) h = add(h, TopicSeams.BAD);
            h = add(h, it <= 10 ? TopicSeams.NONE : TopicSeams.BAD);
        }
        for (int i = 0; i < 50 + 8 * 13; i++) h = add(h, TopicSeams.NONE);
        h = add(h, 0);
        DUE.holds("it goes far above a long", h.bitLength() > 1000);
        DUE.is("digest() of a new one", new TopicSeams().digest(), h.longValue());
    }

    /** Answers below 0 are taken as they are: two objects that differ in one alone differ by it. */
    private static void digestSigns() {
        DUE.says("h is 17; h becomes 31 h and each of");
        TopicSeams open = Due.of("a");
        TopicSeams strange = Due.of("A");
        BigInteger less = BigInteger.ZERO;
        int[] differ = {open.fault(0) - strange.fault(0), open.fault(1) - strange.fault(1), open.fault(2) - strange.fault(2)};
        for (int d : differ) less = add(less, d);
        int behind = 12 * 11 + 50 + 8 * 13 + 1;
        less = less.multiply(BigInteger.valueOf(31).pow(behind));
        DUE.is("digest() of 'a' less that of 'A'", open.digest() - strange.digest(), less.longValue());
    }
}
