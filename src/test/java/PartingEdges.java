/** The edges that the document names for blocks, partings, bends and drops, sentence by sentence. */
public final class PartingEdges {
    private static final Due DUE = new Due();
    private static final int LEAST = Integer.MIN_VALUE, GREATEST = Integer.MAX_VALUE;
    private static final String TWELVE = "a.b.c.d.e.f.g.h.i.j.k.l.";
    private static final int[] NO_PARTS = {-1, 0, 9, LEAST, GREATEST};

    public static void main(String[] args) {
        costByRules();
        zeroAtLeast();
        fee();
        costEnds();
        costBad();
        costNot();
        noBlockIsEmpty();
        totalOfAllBlocks();
        leastOfAll();
        bestForEachNumber();
        bestRefusals();
        likeOnes();
        seamEnds();
        seamRefusals();
        bentNoLess();
        bentRange();
        dropLikeOnes();
        dropNone();
        dropRefusals();
        DUE.end();
    }

    /** One stem or nine, once or twice: the least and the most that a block of a sentence has. */
    private static void costByRules() {
        DUE.says("0: twice UNLIKE; 1: UNLIKE times UNLIKE; 2: WORDS, and three times ONCE; 3: WORDS less UNLIKE are its BONDS");
        String[] texts = {"a.", "a a.", "a b c d e f g h i.", "a a b b c c d d e.", "a a a a a a a a a."};
        int[][] due = {{2, 1, 4, 4}, {2, 1, 2, 3}, {18, 81, 36, 36}, {10, 25, 12, 16}, {2, 1, 9, 0}};
        for (int t = 0; t < texts.length; t++) {
            for (int rule = 0; rule <= 3; rule++) {
                TopicSeams x = Due.of(texts[t]);
                x.set(0, rule);
                DUE.is("cost(0, 1) of " + texts[t] + " by RULE " + rule, x.cost(0, 1), due[t][rule] + 3);
                x.set(1, 0);
                DUE.is("cost(0, 1) of " + texts[t] + " by RULE " + rule + ", no FEE", x.cost(0, 1), due[t][rule]);
            }
        }
    }

    /** Of u unlike stems and so many bonds: around the number where nothing is left. */
    private static void zeroAtLeast() {
        DUE.says("four times UNLIKE, less BONDS, 0 at least");
        for (int unlike = 1; unlike <= 3; unlike++) {
            for (int bonds = 0; bonds <= 5 * unlike; bonds++) {
                TopicSeams x = new TopicSeams();
                x.set(0, 3);
                x.set(1, 0);
                int words = unlike + bonds;
                for (int w = 0; w < words; w++) {
                    x.type('a' + w % unlike);
                    x.type(w % 9 == 8 || w == words - 1 ? '.' : ' ');
                }
                int sentences = (words + 8) / 9;
                int due = 4 * unlike - bonds;
                DUE.is(unlike + " UNLIKE, " + bonds + " BONDS", x.cost(0, sentences), due < 0 ? 0 : due);
                x.set(1, 5);
                DUE.is(unlike + " UNLIKE, " + bonds + " BONDS, and FEE", x.cost(0, sentences), (due < 0 ? 0 : due) + 5);
            }
        }
    }

    private static void fee() {
        DUE.says("To each FEE (0 to 40; 3 at first) is added.");
        TopicSeams x = Due.of("a.b.");
        DUE.is("at first", x.cost(0, 1), 5);
        DUE.is("at first, of two parts", x.best(2), 10);
        x.set(1, 0);
        DUE.is("none", x.cost(0, 1), 2);
        DUE.is("none, of two parts", x.best(2), 4);
        x.set(1, 40);
        DUE.is("the most", x.cost(0, 1), 42);
        DUE.is("the most, of two parts", x.best(2), 84);
        x.set(1, 41);
        DUE.is("one more is none", x.cost(0, 1), 42);
    }

    private static void costEnds() {
        DUE.says("COST of a block from SENTENCE i to ahead of j");
        TopicSeams x = Due.of(TWELVE);
        for (int i = 0; i < 12; i++) {
            for (int j = i + 1; j <= 12; j++) DUE.is("cost(" + i + ", " + j + ")", x.cost(i, j), 2 * (j - i) + 3);
        }
    }

    private static void costBad() {
        DUE.says("BAD: not 0 to as many as there are SENTENCES");
        for (int n = 0; n <= 12; n += 3) {
            TopicSeams x = Due.of(TWELVE.substring(0, 2 * n));
            int[] none = {-1, n + 1, LEAST, GREATEST};
            for (int bad : none) {
                DUE.is("cost(" + bad + ", 0) of " + n, x.cost(bad, 0), TopicSeams.BAD);
                DUE.is("cost(0, " + bad + ") of " + n, x.cost(0, bad), TopicSeams.BAD);
                DUE.is("cost(" + bad + ", " + n + ") of " + n, x.cost(bad, n), TopicSeams.BAD);
                DUE.is("cost(" + n + ", " + bad + ") of " + n, x.cost(n, bad), TopicSeams.BAD);
                DUE.is("cost(" + bad + ", " + bad + ") of " + n, x.cost(bad, bad), TopicSeams.BAD);
            }
        }
    }

    private static void costNot() {
        DUE.says("NOT: it is EMPTY (j is no more than i)");
        for (int n = 0; n <= 12; n += 4) {
            TopicSeams x = Due.of(TWELVE.substring(0, 2 * n));
            for (int i = 0; i <= n; i++) {
                DUE.is("cost(" + i + ", " + i + ") of " + n, x.cost(i, i), TopicSeams.NOT);
                if (i > 0) DUE.is("cost(" + i + ", " + (i - 1) + ") of " + n, x.cost(i, i - 1), TopicSeams.NOT);
                DUE.is("cost(" + i + ", 0) of " + n, x.cost(i, 0), TopicSeams.NOT);
            }
        }
    }

    /** Without FEE an empty block would cost nothing, and the rest would do in one block. */
    private static void noBlockIsEmpty() {
        DUE.says("A PARTING into k parts (1 to 8) has k blocks, none EMPTY, of all SENTENCES in order");
        TopicSeams x = Due.of("a.a.a.a.a.a.a.a.");
        x.set(1, 0);
        for (int k = 1; k <= 8; k++) {
            DUE.is("best(" + k + ")", x.best(k), 2 * k);
            for (int i = 0; i < k; i++) DUE.is("seam(" + k + ", " + i + ")", x.seam(k, i), i);
        }
        DUE.is("best(9)", x.best(9), TopicSeams.BAD);
    }

    private static void totalOfAllBlocks() {
        DUE.says("its TOTAL is the COST of all");
        for (int rule = 0; rule <= 3; rule++) {
            TopicSeams x = Due.of("a b.b.c a.d d d.d.e f.f.e e.a.b.");
            x.set(0, rule);
            x.set(1, rule);
            for (int k = 1; k <= 8; k++) {
                int total = 0;
                for (int i = 0; i < k; i++) {
                    int end = i < k - 1 ? x.seam(k, i + 1) : x.count(1);
                    DUE.holds("block " + i + " of " + k + " is not EMPTY", end > x.seam(k, i));
                    total += x.cost(x.seam(k, i), end);
                }
                DUE.is("best(" + k + ") by RULE " + rule, x.best(k), total);
            }
        }
    }

    /** Of three parts all partings can be tried by cost() alone. */
    private static void leastOfAll() {
        DUE.says("BEST is the one with the least TOTAL");
        for (int rule = 0; rule <= 3; rule++) {
            TopicSeams x = Due.of("a b.b.c a.d d d.d.e f.f.");
            x.set(0, rule);
            int least = GREATEST;
            for (int i = 1; i < 6; i++) {
                for (int j = i + 1; j < 7; j++) least = Math.min(least, x.cost(0, i) + x.cost(i, j) + x.cost(j, 7));
            }
            DUE.is("best(3) by RULE " + rule, x.best(3), least);
        }
    }

    /** By RULE 1 without FEE, sentences of one stem each: blocks as even as can be are best. */
    private static void bestForEachNumber() {
        DUE.says("NONE: there are less SENTENCES than k.");
        for (int n = 0; n <= 12; n++) {
            TopicSeams x = Due.of(TWELVE.substring(0, 2 * n));
            x.set(0, 1);
            x.set(1, 0);
            for (int k = 1; k <= 8; k++) {
                int small = n / k;
                int longer = n % k;
                int even = longer * (small + 1) * (small + 1) + (k - longer) * small * small;
                DUE.is("best(" + k + ") of " + n, x.best(k), k <= n ? even : TopicSeams.NONE);
                DUE.is("seam(" + k + ", 0) of " + n, x.seam(k, 0), k <= n ? 0 : TopicSeams.NONE);
            }
        }
    }

    private static void bestRefusals() {
        DUE.says("The TOTAL of BEST; NONE. BAD.");
        for (int k : NO_PARTS) {
            DUE.is("best(" + k + ")", Due.of(TWELVE).best(k), TopicSeams.BAD);
            DUE.is("best(" + k + ") of no TEXT", new TopicSeams().best(k), TopicSeams.BAD);
        }
        DUE.is("best(1) of no TEXT", new TopicSeams().best(1), TopicSeams.NONE);
        DUE.is("best(8) of no TEXT", new TopicSeams().best(8), TopicSeams.NONE);
        DUE.is("best(1) of one", Due.of("a.").best(1), 5);
        DUE.is("best(2) of one", Due.of("a.").best(2), TopicSeams.NONE);
    }

    private static void seams(TopicSeams x, int k, int... begins) {
        for (int i = 0; i <= 7; i++) {
            DUE.is("seam(" + k + ", " + i + ")", x.seam(k, i), i < begins.length ? begins[i] : TopicSeams.NONE);
        }
    }

    private static void likeOnes() {
        DUE.says("of like ones the one whose last block begins earliest, of like ones the last but one, and so on");
        TopicSeams x = Due.of(TWELVE);
        seams(x, 2, 0, 1);
        seams(x, 8, 0, 1, 2, 3, 4, 5, 6, 7);
        x.set(0, 1);
        seams(x, 5, 0, 2, 4, 6, 9);
        seams(x, 7, 0, 1, 2, 4, 6, 8, 10);
        seams(x, 8, 0, 1, 2, 3, 4, 6, 8, 10);
        TopicSeams even = Due.of("a.a.b.b.");
        even.set(0, 1);
        seams(even, 2, 0, 2);
        seams(even, 3, 0, 1, 2);
    }

    private static void seamEnds() {
        DUE.says("Where the i-th block (0 to 7) of BEST begins; NONE.");
        TopicSeams x = Due.of("a.b.c.d.e.f.g.h.");
        for (int k = 1; k <= 8; k++) {
            DUE.is("seam(" + k + ", 0)", x.seam(k, 0), 0);
            DUE.is("seam(" + k + ", " + (k - 1) + ")", x.seam(k, k - 1), k - 1);
            if (k < 8) DUE.is("seam(" + k + ", " + k + ")", x.seam(k, k), TopicSeams.NONE);
            if (k < 8) DUE.is("seam(" + k + ", 7)", x.seam(k, 7), TopicSeams.NONE);
        }
        x.undo();
        x.undo();
        for (int i = 0; i <= 7; i++) DUE.is("seam(8, " + i + ") of seven", x.seam(8, i), TopicSeams.NONE);
    }

    private static void seamRefusals() {
        DUE.says("Where the i-th block (0 to 7) of BEST begins; NONE. BAD.");
        TopicSeams x = Due.of("a.b.");
        int[] noBlock = {-1, 8, LEAST, GREATEST};
        for (int k : NO_PARTS) DUE.is("seam(" + k + ", 0)", x.seam(k, 0), TopicSeams.BAD);
        for (int i : noBlock) {
            DUE.is("seam(1, " + i + ")", x.seam(1, i), TopicSeams.BAD);
            DUE.is("seam(8, " + i + "), BAD ahead of NONE", x.seam(8, i), TopicSeams.BAD);
            DUE.is("seam(1, " + i + ") of no TEXT", new TopicSeams().seam(1, i), TopicSeams.BAD);
        }
    }

    private static void bent(String text, int rule, int k, int above, boolean due) {
        TopicSeams x = Due.of(text);
        x.set(0, rule);
        DUE.is("by how much " + text + " bends at " + k, x.best(k - 1) + x.best(k + 1) - 2 * x.best(k), above);
        DUE.is("bit " + k + " of bent() of " + text, x.bent() >> k & 1, due ? 1 : 0);
    }

    private static void bentNoLess() {
        DUE.says("the TOTALS of BEST of one part less and one more are together no less than twice its own");
        bent("a b.c.a.", 1, 2, -1, false);
        bent("a.a.a.", 0, 2, 0, true);
        bent("a b d.c.d.", 1, 2, 1, true);
        bent("a a a a.a a a a.b.", 3, 2, -1, false);
        bent("a b.c.a.b.", 1, 3, -1, false);
        bent("a b.a d.c.a.", 1, 3, 1, true);
        bent("a b.c.a.d.c.", 1, 4, -1, false);
        bent("a b.d.a.c.d.a.", 1, 4, 1, true);
        bent("a b.d.a.c.d.a.", 1, 5, -1, false);
        bent("a.b.c.a.d.b.a.c.", 1, 5, 1, true);
        bent("a.b.c.a.b.c.a.b.", 1, 6, -1, false);
        bent("a.b.c.a.d b.b c.a.", 1, 6, 1, true);
        bent("a.b.c.a.d.b.a.d.b.", 1, 7, -1, false);
        bent("a.a.a.a.a.a.a.a.", 1, 7, 0, true);
        bent("d.c.a.d.b.c a.d.a.b.", 1, 7, 1, true);
    }

    /** Where all totals lie on a line, each k bends for which there are enough sentences. */
    private static void bentRange() {
        DUE.says("BENT, as bits.");
        DUE.is("bent() of three", Due.of("a.b.c.").bent(), 4);
        DUE.says("BENT are k (2 to 7) for which k and 1 more parts have a BEST");
        for (int n = 0; n <= 12; n++) {
            int due = 0;
            for (int k = 2; k <= 7 && k + 1 <= n; k++) due |= 1 << k;
            DUE.is("bent() of " + n, Due.of(TWELVE.substring(0, 2 * n)).bent(), due);
        }
        DUE.is("bent() of no TEXT", new TopicSeams().bent(), 0);
        TopicSeams x = Due.of("a.a.a.a.a.a.a.a.a.a.a.a.");
        for (int n = 12; n >= 1; n--) {
            DUE.is("bent() when " + n + " are left", x.bent(), n > 8 ? 252 : n > 2 ? (1 << n) - 4 : 0);
            x.undo();
            x.undo();
        }
    }

    private static void drops(TopicSeams x, int k, int which, int howMuch) {
        DUE.is("drop(" + k + ", 0)", x.drop(k, 0), which);
        DUE.is("drop(" + k + ", 1)", x.drop(k, 1), howMuch);
    }

    private static void dropLikeOnes() {
        DUE.says("the SENTENCE that had better not be, by which the TOTAL of BEST into k parts is least, of like ones the least: which; how much");
        drops(Due.of(TWELVE), 1, 0, 25);
        drops(Due.of(TWELVE), 8, 0, 46);
        drops(Due.of("a.a.b.a.b."), 1, 0, 7);
        drops(Due.of("a.b.c.c."), 1, 0, 7);
        drops(Due.of("c.c.a.b."), 1, 2, 7);
        drops(Due.of("a b.a.c d e."), 1, 2, 7);
        drops(Due.of("c d e.a b.a."), 1, 0, 7);
        drops(Due.of("a.b."), 1, 0, 5);
        drops(Due.of("a b.c."), 1, 0, 5);
        drops(Due.of("c.a b."), 1, 1, 5);
        drops(Due.of("a.a.a.a.a.a.a.a.a.a.a.b."), 1, 11, 5);
    }

    private static void dropNone() {
        DUE.says("NONE: there is none by which there is any.");
        for (int n = 0; n <= 12; n++) {
            TopicSeams x = Due.of(TWELVE.substring(0, 2 * n));
            for (int k = 1; k <= 8; k++) {
                boolean any = n - 1 >= k;
                drops(x, k, any ? 0 : TopicSeams.NONE, any ? 2 * (n - 1) + 3 * k : TopicSeams.NONE);
            }
        }
    }

    private static void dropRefusals() {
        DUE.says("DROP: which (what = 0), how much (1); NONE. BAD.");
        int[] noWhat = {-1, 2, LEAST, GREATEST};
        TopicSeams[] all = {new TopicSeams(), Due.of("a."), Due.of(TWELVE)};
        for (TopicSeams x : all) {
            for (int k : NO_PARTS) {
                DUE.is("drop(" + k + ", 0)", x.drop(k, 0), TopicSeams.BAD);
                DUE.is("drop(" + k + ", 1)", x.drop(k, 1), TopicSeams.BAD);
            }
            for (int what : noWhat) {
                DUE.is("drop(1, " + what + ")", x.drop(1, what), TopicSeams.BAD);
                DUE.is("drop(8, " + what + ")", x.drop(8, what), TopicSeams.BAD);
            }
        }
    }
}
