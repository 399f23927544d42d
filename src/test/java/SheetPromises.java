/** Promises 24 to 30: sheets, what is written to them, counts and findings. */
public final class SheetPromises {
    private static final Due DUE = new Due();

    public static void main(String[] args) {
        sheet();
        sheetIsNew();
        sheetWrongInput();
        lose();
        put();
        putOrder();
        lowestBits();
        get();
        copy();
        copyOverItself();
        copyFindings();
        copyEdges();
        write();
        writeForms();
        writeWrongInput();
        count();
        countFindings();
        DUE.end();
    }

    /** Leaves SIZE as the latest finding, so that an old one can't pass for the next. */
    private static void finds(String call, TopicSeams x, int got, int due) {
        DUE.is(call, got, due);
        DUE.is(call + ", count 8", x.count(8), -10 - due);
        x.sheet(3, 0, -1);
    }

    private static void sheet() {
        TopicSeams x = new TopicSeams();
        for (int s = 0; s < 4; s++) {
            for (int form = 0; form < 3; form++) {
                DUE.is("24: 60", x.sheet(s, form, 60), 60);
                DUE.is("24: its last item", x.get(s, form, 59), 0);
                DUE.is("24: 0", x.sheet(s, form, 0), 0);
                DUE.is("24: no item", x.get(s, form, 0), Due.LEAST_INT);
                DUE.is("24: INDEX", x.count(8), 2);
            }
            DUE.is("24: how many", x.sheet(s, 0, s + 1), s + 1);
        }
        for (int s = 0; s < 4; s++) DUE.is("24: each its own", x.lose(s), s + 1);
    }

    private static void sheetIsNew() {
        TopicSeams x = new TopicSeams();
        x.sheet(2, 2, 3);
        for (int i = 0; i < 3; i++) x.put(2, 2, i, 7);
        x.sheet(2, 2, 2);
        DUE.is("24: 0 at first", x.get(2, 2, 0), 0);
        DUE.is("24: 0 at first", x.get(2, 2, 1), 0);
        DUE.is("24: shorter", x.get(2, 2, 2), Due.LEAST_INT);
        x.sheet(2, 1, 3);
        DUE.is("24: 0 at first, longer", x.get(2, 1, 2), 0);
        x.put(2, 1, 2, 5);
        x.lose(2);
        x.sheet(2, 1, 3);
        DUE.is("24: 0 behind a loss", x.get(2, 1, 2), 0);
    }

    private static void sheetWrongInput() {
        TopicSeams x = new TopicSeams();
        x.sheet(0, 1, 4);
        DUE.is("24: BAD SHEET", x.sheet(-1, 0, 1), TopicSeams.BAD);
        DUE.is("24: BAD SHEET", x.sheet(4, 0, 1), TopicSeams.BAD);
        DUE.is("24: BAD FORM", x.sheet(0, -1, 1), TopicSeams.BAD);
        DUE.is("24: BAD FORM", x.sheet(0, 3, 1), TopicSeams.BAD);
        DUE.is("24: above 60", x.sheet(0, 0, 61), TopicSeams.BAD);
        DUE.is("24: above 60", x.sheet(0, 0, Integer.MAX_VALUE), TopicSeams.BAD);
        DUE.is("24: BAD ahead of SIZE", x.sheet(4, 0, -1), TopicSeams.BAD);
        DUE.is("24: BAD ahead of SIZE", x.sheet(0, 3, -1), TopicSeams.BAD);
        DUE.is("24: no FINDING", x.count(8), 0);
        DUE.is("24: SIZE", x.sheet(0, 0, -1), Due.SIZE);
        DUE.is("24: SIZE is found", x.count(8), 5);
        DUE.is("24: SIZE", x.sheet(1, 0, Integer.MIN_VALUE), Due.SIZE);
        DUE.is("24: refusals change nothing", x.get(0, 1, 3), 0);
        DUE.is("24: refusals change nothing", x.lose(0), 4);
        DUE.is("24: refusals make none", x.lose(1), Due.NULL);
    }

    private static void lose() {
        TopicSeams x = new TopicSeams();
        DUE.is("25: BAD", x.lose(-1), TopicSeams.BAD);
        DUE.is("25: BAD", x.lose(4), TopicSeams.BAD);
        DUE.is("25: no FINDING", x.count(8), 0);
        DUE.is("25: NULL", x.lose(0), Due.NULL);
        DUE.is("25: NULL is found", x.count(8), 1);
        x.sheet(0, 1, 9);
        x.sheet(1, 1, 8);
        DUE.is("25: items", x.lose(0), 9);
        DUE.is("25: LOST", x.lose(0), Due.NULL);
        DUE.is("25: the other is not", x.lose(1), 8);
        x.sheet(0, 2, 0);
        DUE.is("25: no items", x.lose(0), 0);
        DUE.is("25: LOST to put", x.put(0, 2, 0, 1), Due.NULL);
    }

    private static void put() {
        TopicSeams x = new TopicSeams();
        for (int form = 0; form < 3; form++) {
            x.sheet(form, form, 3);
            DUE.is("26: put", x.put(form, form, 0, 5), 1);
            DUE.is("26: put", x.put(form, form, 2, -6), 1);
            DUE.is("27: first", x.get(form, form, 0), 5);
            DUE.is("27: between", x.get(form, form, 1), 0);
            DUE.is("27: last", x.get(form, form, 2), -6);
        }
        DUE.is("26: no FINDING", x.count(8), 0);
    }

    private static void putOrder() {
        TopicSeams x = new TopicSeams();
        DUE.is("26: BAD SHEET", x.put(-1, 0, 0, 0), TopicSeams.BAD);
        DUE.is("26: BAD SHEET", x.put(4, 0, 0, 0), TopicSeams.BAD);
        DUE.is("26: BAD FORM", x.put(0, -1, 0, 0), TopicSeams.BAD);
        DUE.is("26: BAD FORM ahead of NULL", x.put(0, 3, 0, 0), TopicSeams.BAD);
        DUE.is("26: no FINDING", x.count(8), 0);
        finds("26: NULL", x, x.put(0, 1, -1, 0), Due.NULL);
        x.sheet(0, 1, 4);
        finds("26: CAST", x, x.put(0, 0, 1, 9), Due.CAST);
        finds("26: CAST", x, x.put(0, 2, 1, 9), Due.CAST);
        finds("26: CAST ahead of INDEX", x, x.put(0, 2, 4, 9), Due.CAST);
        finds("26: INDEX", x, x.put(0, 1, 4, 9), Due.INDEX);
        finds("26: INDEX", x, x.put(0, 1, -1, 9), Due.INDEX);
        finds("26: INDEX", x, x.put(0, 1, Integer.MAX_VALUE, 9), Due.INDEX);
        finds("26: INDEX", x, x.put(0, 1, Integer.MIN_VALUE, 9), Due.INDEX);
        for (int i = 0; i < 4; i++) DUE.is("26: refusals change nothing", x.get(0, 1, i), 0);
    }

    private static void lowestBits() {
        int[] values = {0, 127, 128, 255, 256, -128, -129, 32767, 32768, 65535, 65536, -32768, -32769,
            Integer.MAX_VALUE, Integer.MIN_VALUE, 0x12345678};
        TopicSeams x = new TopicSeams();
        for (int form = 0; form < 3; form++) x.sheet(form, form, 1);
        for (int v : values) {
            x.put(0, 0, 0, v);
            x.put(1, 1, 0, v);
            x.put(2, 2, 0, v);
            DUE.is("26: byte of " + v, x.get(0, 0, 0), (byte) v);
            DUE.is("26: short of " + v, x.get(1, 1, 0), (short) v);
            DUE.is("26: int of " + v, x.get(2, 2, 0), v);
        }
    }

    private static void get() {
        TopicSeams x = new TopicSeams();
        DUE.is("27: BAD SHEET", x.get(-1, 0, 0), Due.LEAST_INT);
        DUE.is("27: BAD SHEET", x.get(4, 0, 0), Due.LEAST_INT);
        DUE.is("27: BAD FORM", x.get(0, 3, 0), Due.LEAST_INT);
        DUE.is("27: BAD FORM", x.get(0, -1, 0), Due.LEAST_INT);
        DUE.is("27: BAD is no FINDING", x.count(8), 0);
        DUE.is("27: NULL", x.get(0, 0, 0), Due.LEAST_INT);
        DUE.is("27: NULL is found", x.count(8), 1);
        x.sheet(0, 0, 2);
        DUE.is("27: INDEX", x.get(0, 0, 2), Due.LEAST_INT);
        DUE.is("27: INDEX is found", x.count(8), 2);
        DUE.is("27: CAST ahead of INDEX", x.get(0, 1, 2), Due.LEAST_INT);
        DUE.is("27: CAST is found", x.count(8), 3);
        DUE.is("27: INDEX below 0", x.get(0, 0, -1), Due.LEAST_INT);
        DUE.is("27: INDEX below 0 is found", x.count(8), 2);
        DUE.is("27: well", x.get(0, 0, 1), 0);
        DUE.is("27: the latest FINDING stays", x.count(8), 2);
    }

    private static TopicSeams rows() {
        TopicSeams x = new TopicSeams();
        x.sheet(0, 1, 5);
        x.sheet(1, 1, 4);
        x.sheet(2, 2, 5);
        for (int i = 0; i < 5; i++) x.put(0, 1, i, 10 + i);
        for (int i = 0; i < 4; i++) x.put(1, 1, i, 20 + i);
        return x;
    }

    private static void row(String call, TopicSeams x, int s, int... due) {
        for (int i = 0; i < due.length; i++) DUE.is(call + " item " + i, x.get(s, 1, i), due[i]);
    }

    private static void copy() {
        TopicSeams x = rows();
        DUE.is("28: copy", x.copy(0, 1, 1, 2, 2), 1);
        row("28: to", x, 1, 20, 21, 11, 12);
        row("28: from", x, 0, 10, 11, 12, 13, 14);
        x = rows();
        DUE.is("28: whole", x.copy(1, 0, 0, 1, 4), 1);
        row("28: whole", x, 0, 10, 20, 21, 22, 23);
        x.put(1, 1, 0, 99);
        row("28: no rows shared", x, 0, 10, 20, 21, 22, 23);
    }

    private static void copyOverItself() {
        TopicSeams x = rows();
        DUE.is("28: to the right", x.copy(0, 0, 0, 1, 4), 1);
        row("28: as they were", x, 0, 10, 10, 11, 12, 13);
        x = rows();
        DUE.is("28: to the left", x.copy(0, 2, 0, 0, 3), 1);
        row("28: as they were", x, 0, 12, 13, 14, 13, 14);
        DUE.is("28: on itself", x.copy(0, 0, 0, 0, 5), 1);
        row("28: on itself", x, 0, 12, 13, 14, 13, 14);
    }

    private static void copyFindings() {
        TopicSeams x = rows();
        DUE.is("28: BAD s", x.copy(-1, 0, 1, 0, 1), TopicSeams.BAD);
        DUE.is("28: BAD s", x.copy(4, 0, 1, 0, 1), TopicSeams.BAD);
        DUE.is("28: BAD t", x.copy(0, 0, -1, 0, 1), TopicSeams.BAD);
        DUE.is("28: BAD t ahead of NULL", x.copy(3, 0, 4, 0, 1), TopicSeams.BAD);
        DUE.is("28: no FINDING", x.count(8), 0);
        finds("28: s NULL", x, x.copy(3, 0, 0, 0, 1), Due.NULL);
        finds("28: t NULL", x, x.copy(0, 0, 3, 0, 1), Due.NULL);
        finds("28: NULL ahead of INDEX", x, x.copy(0, -1, 3, 0, 1), Due.NULL);
        finds("28: STORE", x, x.copy(0, 0, 2, 0, 1), Due.STORE);
        finds("28: STORE", x, x.copy(2, 0, 1, 0, 1), Due.STORE);
        finds("28: STORE of no items", x, x.copy(2, 0, 1, 0, 0), Due.STORE);
        finds("28: STORE ahead of INDEX", x, x.copy(0, -1, 2, 9, 99), Due.STORE);
        row("28: refusals change nothing", x, 0, 10, 11, 12, 13, 14);
        row("28: refusals change nothing", x, 1, 20, 21, 22, 23);
    }

    private static void copyEdges() {
        int most = Integer.MAX_VALUE;
        int least = Integer.MIN_VALUE;
        int[][] beyond = {{-1, 0, 1}, {0, -1, 1}, {0, 0, -1}, {0, 0, 5}, {0, 1, 4}, {2, 0, 4}, {5, 0, 1}, {0, 4, 1},
            {6, 0, 0}, {0, 5, 0}, {most, 0, 1}, {0, most, 1}, {0, 0, most}, {most, most, most}, {least, 0, 0},
            {0, least, 0}, {0, 0, least}, {1, 1, most}, {most, 0, 0}, {least, least, least}};
        TopicSeams x = rows();
        for (int[] b : beyond) {
            x.get(2, 0, 0);
            DUE.is("28: INDEX " + b[0] + " " + b[1] + " " + b[2], x.copy(0, b[0], 1, b[1], b[2]), Due.INDEX);
            DUE.is("28: INDEX is found", x.count(8), 2);
        }
        row("28: refusals change nothing", x, 1, 20, 21, 22, 23);
        DUE.is("28: none from the ends", x.copy(0, 5, 1, 4, 0), 1);
        DUE.is("28: none", x.copy(0, 0, 1, 0, 0), 1);
        row("28: none change nothing", x, 1, 20, 21, 22, 23);
    }

    private static void write() {
        TopicSeams x = Due.of("a. a. b. b. c. c.");
        x.sheet(0, 2, 5);
        for (int i = 0; i < 5; i++) x.put(0, 2, i, -7);
        DUE.is("29: write", x.write(3, 0), 3);
        int[] due = {0, 2, 4, -7, -7};
        for (int i = 0; i < 5; i++) DUE.is("29: item " + i, x.get(0, 2, i), due[i]);
        x.sheet(1, 2, 2);
        DUE.is("29: as many as there are items", x.write(3, 1), 2);
        DUE.is("29: the second", x.get(1, 2, 1), 2);
        x.sheet(1, 2, 0);
        DUE.is("29: no items", x.write(3, 1), 0);
        x.sheet(3, 0, 8);
        DUE.is("29: as many parts as sentences", x.write(6, 3), 6);
        DUE.is("29: the last", x.get(3, 0, 5), 5);
        DUE.is("29: no BEST", x.write(7, 0), 0);
        DUE.is("29: nothing comes", x.get(0, 2, 1), 2);
        DUE.is("29: one part", x.write(1, 0), 1);
        DUE.is("29: the others stay", x.get(0, 2, 1), 2);
    }

    private static void writeForms() {
        TopicSeams x = Due.of("a.b.c.d.e.f.g.h.i.j.k.l.");
        x.set(0, 1);
        x.set(1, 0);
        int[] due = {0, 1, 2, 3, 4, 6, 8, 10};
        for (int form = 0; form < 3; form++) {
            x.sheet(form, form, 60);
            DUE.is("29: eight", x.write(8, form), 8);
            for (int i = 0; i < 8; i++) DUE.is("29: item " + i, x.get(form, form, i), due[i]);
            DUE.is("29: no ninth", x.get(form, form, 8), 0);
        }
    }

    private static void writeWrongInput() {
        TopicSeams x = Due.of("a. b.");
        DUE.is("29: BAD k", x.write(0, 0), TopicSeams.BAD);
        DUE.is("29: BAD k", x.write(9, 0), TopicSeams.BAD);
        DUE.is("29: BAD s", x.write(1, -1), TopicSeams.BAD);
        DUE.is("29: BAD s", x.write(1, 4), TopicSeams.BAD);
        DUE.is("29: no FINDING", x.count(8), 0);
        finds("29: NULL", x, x.write(1, 0), Due.NULL);
        finds("29: NULL where there is no BEST", x, x.write(8, 0), Due.NULL);
    }

    private static void count() {
        TopicSeams x = Due.of("cat cats dog. dog. a b a. ");
        x.set(0, 2);
        x.set(1, 11);
        x.tell(34);
        int[] due = {26, 3, 7, 4, 3, 2, 11, 34, 0};
        for (int what = 0; what <= 8; what++) DUE.is("30: count " + what, x.count(what), due[what]);
        DUE.is("30: BAD", x.count(-1), TopicSeams.BAD);
        DUE.is("30: BAD", x.count(9), TopicSeams.BAD);
        DUE.is("30: BAD", x.count(Integer.MAX_VALUE), TopicSeams.BAD);
        DUE.is("30: BAD", x.count(Integer.MIN_VALUE), TopicSeams.BAD);
    }

    private static void countFindings() {
        TopicSeams x = new TopicSeams();
        x.sheet(0, 0, -1);
        DUE.is("30: SIZE", x.count(8), 5);
        x.sheet(0, 0, 1);
        x.sheet(1, 1, 1);
        x.copy(0, 0, 1, 0, 1);
        DUE.is("30: STORE", x.count(8), 4);
        x.put(0, 1, 0, 0);
        DUE.is("30: CAST", x.count(8), 3);
        x.put(0, 0, 1, 0);
        DUE.is("30: INDEX", x.count(8), 2);
        x.lose(2);
        DUE.is("30: NULL", x.count(8), 1);
        x.put(0, 0, 0, 0);
        x.type(300);
        x.undo();
        x.wipe();
        DUE.is("30: others change it not", x.count(8), 1);
    }
}
