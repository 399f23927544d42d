/** Promises 16 to 20: what blocks cost, the best partings, where totals bend, what to drop. */
public final class PartingPromises {
    private static final Due DUE = new Due();
    /** Sentences of the stems a a b, b c, c. */
    private static final String THREE = "a a b. b c. c.";

    public static void main(String[] args) {
        costByRules();
        bondsCostNothing();
        costWrongInput();
        best();
        bestWrongInput();
        earliestLastBlock();
        seam();
        seamWrongInput();
        eightParts();
        bent();
        bentEdges();
        drop();
        dropTies();
        dropJoins();
        dropWrongInput();
        DUE.end();
    }

    private static void costs(TopicSeams x, int rule, int[] due) {
        x.set(0, rule);
        int at = 0;
        for (int i = 0; i < 3; i++) {
            for (int j = i + 1; j <= 3; j++) {
                DUE.is("16: RULE " + rule + " cost " + i + " " + j, x.cost(i, j), due[at]);
                at++;
            }
        }
    }

    /** Blocks in the order 0-1, 0-2, 0-3, 1-2, 1-3, 2-3. */
    private static void costByRules() {
        TopicSeams x = Due.of(THREE);
        costs(x, 0, new int[] {7, 9, 9, 7, 7, 5});
        costs(x, 1, new int[] {7, 12, 12, 7, 7, 4});
        costs(x, 2, new int[] {9, 11, 9, 11, 9, 7});
        costs(x, 3, new int[] {10, 13, 12, 11, 10, 7});
        x.set(1, 0);
        costs(x, 0, new int[] {4, 6, 6, 4, 4, 2});
        costs(x, 1, new int[] {4, 9, 9, 4, 4, 1});
        costs(x, 2, new int[] {6, 8, 6, 8, 6, 4});
        costs(x, 3, new int[] {7, 10, 9, 8, 7, 4});
        x.set(1, 40);
        costs(x, 0, new int[] {44, 46, 46, 44, 44, 42});
    }

    private static void bondsCostNothing() {
        TopicSeams x = Due.of("a a a a a a a a a. a.");
        x.set(0, 3);
        DUE.is("16: 0 at least", x.cost(0, 1), 3);
        DUE.is("16: 0 at least", x.cost(0, 2), 3);
        DUE.is("16: four times UNLIKE", x.cost(1, 2), 7);
        Due.retype(x, "a a a a. a. a.");
        DUE.is("16: one is left", x.cost(0, 1), 4);
        DUE.is("16: just none is left", x.cost(0, 2), 3);
        DUE.is("16: no less than none", x.cost(0, 3), 3);
    }

    private static void costWrongInput() {
        TopicSeams x = Due.of(THREE);
        DUE.is("16: BAD", x.cost(-1, 1), TopicSeams.BAD);
        DUE.is("16: BAD", x.cost(0, 4), TopicSeams.BAD);
        DUE.is("16: BAD", x.cost(4, 0), TopicSeams.BAD);
        DUE.is("16: BAD", x.cost(0, -1), TopicSeams.BAD);
        DUE.is("16: BAD ahead of NOT", x.cost(4, 4), TopicSeams.BAD);
        DUE.is("16: BAD ahead of NOT", x.cost(-1, -1), TopicSeams.BAD);
        DUE.is("16: BAD", x.cost(Integer.MIN_VALUE, Integer.MAX_VALUE), TopicSeams.BAD);
        DUE.is("16: NOT", x.cost(0, 0), TopicSeams.NOT);
        DUE.is("16: NOT", x.cost(3, 3), TopicSeams.NOT);
        DUE.is("16: NOT", x.cost(3, 0), TopicSeams.NOT);
        DUE.is("16: NOT", x.cost(2, 1), TopicSeams.NOT);
        DUE.is("16: NOT of no text", new TopicSeams().cost(0, 0), TopicSeams.NOT);
        DUE.is("16: BAD of no text", new TopicSeams().cost(0, 1), TopicSeams.BAD);
        DUE.is("16: no FINDING", x.count(8), 0);
    }

    private static void best() {
        TopicSeams x = Due.of(THREE);
        DUE.is("17: one part", x.best(1), 9);
        DUE.is("17: two parts", x.best(2), 14);
        DUE.is("17: three parts", x.best(3), 19);
        DUE.is("17: NONE", x.best(4), TopicSeams.NONE);
        DUE.is("17: NONE", x.best(8), TopicSeams.NONE);
        x.set(0, 1);
        x.set(1, 0);
        DUE.is("17: one part by RULE 1", x.best(1), 9);
        DUE.is("17: two parts by RULE 1", x.best(2), 8);
        DUE.is("17: three parts by RULE 1", x.best(3), 9);
        x.type('d');
        x.type('.');
        DUE.is("17: a sentence more", x.best(1), 16);
        DUE.is("17: and in four parts", x.best(4), 10);
    }

    private static void bestWrongInput() {
        TopicSeams x = Due.of(THREE);
        DUE.is("17: BAD", x.best(0), TopicSeams.BAD);
        DUE.is("17: BAD", x.best(9), TopicSeams.BAD);
        DUE.is("17: BAD", x.best(-1), TopicSeams.BAD);
        DUE.is("17: NONE of no text", new TopicSeams().best(1), TopicSeams.NONE);
        DUE.is("17: BAD of no text", new TopicSeams().best(9), TopicSeams.BAD);
    }

    private static void seams(TopicSeams x, int k, int... begins) {
        for (int i = 0; i < 8; i++) {
            int due = i < begins.length ? begins[i] : TopicSeams.NONE;
            DUE.is("18: seam " + k + " " + i, x.seam(k, i), due);
        }
    }

    /** Where all partings cost the same, the blocks at the end are as long as can be. */
    private static void earliestLastBlock() {
        TopicSeams x = Due.of("a. b. c. d. e.");
        seams(x, 1, 0);
        seams(x, 2, 0, 1);
        seams(x, 3, 0, 1, 2);
        seams(x, 4, 0, 1, 2, 3);
        seams(x, 5, 0, 1, 2, 3, 4);
        seams(x, 6);
        DUE.is("17: all the same", x.best(3), 19);
        Due.retype(x, "a. a. b. b.");
        seams(x, 2, 0, 2);
        seams(x, 3, 0, 1, 2);
    }

    private static void seam() {
        TopicSeams x = Due.of("a b. b a. a. c d. d c. e. e f. f.");
        seams(x, 2, 0, 3);
        seams(x, 3, 0, 3, 5);
        x.set(0, 1);
        seams(x, 2, 0, 3);
        seams(x, 3, 0, 3, 5);
        Due.retype(x, "e. e f. f. a b. b a. a. c d. d c.");
        seams(x, 3, 0, 3, 6);
    }

    private static void seamWrongInput() {
        TopicSeams x = Due.of(THREE);
        DUE.is("18: BAD k", x.seam(0, 0), TopicSeams.BAD);
        DUE.is("18: BAD k", x.seam(9, 0), TopicSeams.BAD);
        DUE.is("18: BAD i", x.seam(1, -1), TopicSeams.BAD);
        DUE.is("18: BAD i", x.seam(1, 8), TopicSeams.BAD);
        DUE.is("18: BAD ahead of NONE", x.seam(4, 8), TopicSeams.BAD);
        DUE.is("18: NONE", x.seam(4, 0), TopicSeams.NONE);
        DUE.is("18: no such block", x.seam(2, 2), TopicSeams.NONE);
    }

    private static void eightParts() {
        TopicSeams x = Due.of("a.b.c.d.e.f.g.h.i.j.k.l.");
        DUE.is("17: eight of twelve", x.best(8), 48);
        seams(x, 8, 0, 1, 2, 3, 4, 5, 6, 7);
        x.set(0, 1);
        x.set(1, 0);
        DUE.is("17: eight of twelve by RULE 1", x.best(8), 4 * 4 + 4);
        seams(x, 8, 0, 1, 2, 3, 4, 6, 8, 10);
        Due.retype(x, "a.b.c.d.e.f.g.h.");
        DUE.is("17: eight of eight", x.best(8), 8);
        Due.retype(x, "a.b.c.d.e.f.g.");
        DUE.is("17: eight of seven", x.best(8), TopicSeams.NONE);
    }

    private static void bent() {
        TopicSeams x = Due.of("a. b. c. d. e.");
        DUE.is("19: straight is bent", x.bent(), 1 << 2 | 1 << 3 | 1 << 4);
        x.set(0, 1);
        x.set(1, 0);
        DUE.is("19: 25 13 9 7 5", x.bent(), 1 << 2 | 1 << 3 | 1 << 4);
        Due.retype(x, "a. a b. a.");
        x.set(0, 0);
        DUE.is("19: 4 6 8", x.bent(), 1 << 2);
        x.set(0, 2);
        DUE.is("19: 7 10 16", x.bent(), 1 << 2);
        Due.retype(x, "a b. c. a b.");
        DUE.is("19: 8 20 20", x.best(1) * 10000 + x.best(2) * 100 + x.best(3), 82020);
        DUE.is("19: downward", x.bent(), 0);
        x = Due.of("a. b. a.");
        x.set(0, 2);
        DUE.is("19: downward, asked first", x.bent(), 0);
    }

    private static void bentEdges() {
        DUE.is("19: no text", new TopicSeams().bent(), 0);
        DUE.is("19: one", Due.of("a.").bent(), 0);
        DUE.is("19: two", Due.of("a. b.").bent(), 0);
        TopicSeams x = Due.of("a. b.");
        x.set(0, 1);
        x.set(1, 0);
        DUE.is("19: two, 4 2, no third", x.bent(), 0);
        DUE.is("19: three", Due.of("a. b. c.").bent(), 4);
        DUE.is("19: seven", Due.of("a.b.c.d.e.f.g.").bent(), 4 + 8 + 16 + 32 + 64);
        DUE.is("19: eight", Due.of("a.b.c.d.e.f.g.h.").bent(), 4 + 8 + 16 + 32 + 64 + 128);
        DUE.is("19: twelve", Due.of("a.b.c.d.e.f.g.h.i.j.k.l.").bent(), 4 + 8 + 16 + 32 + 64 + 128);
    }

    private static void drops(TopicSeams x, int k, int which, int howMuch) {
        DUE.is("20: which for " + k, x.drop(k, 0), which);
        DUE.is("20: how much for " + k, x.drop(k, 1), howMuch);
    }

    private static void drop() {
        TopicSeams x = Due.of("a. b c d. a.");
        drops(x, 1, 1, 5);
        drops(x, 2, 1, 10);
        drops(x, 3, -1, -1);
        drops(x, 8, -1, -1);
        x.set(1, 10);
        drops(x, 1, 1, 12);
        x.set(0, 1);
        drops(x, 1, 1, 11);
        Due.retype(x, "b c d. a. a.");
        drops(x, 1, 0, 11);
        Due.retype(x, "a. a. b c d.");
        drops(x, 1, 2, 11);
    }

    private static void dropTies() {
        TopicSeams x = Due.of("a. b. c. d.");
        drops(x, 1, 0, 9);
        drops(x, 3, 0, 15);
        drops(x, 4, -1, -1);
        Due.retype(x, "a. a. b. c.");
        drops(x, 1, 2, 7);
    }

    /** What stood on both sides of the sentence comes together, and its own stems are gone. */
    private static void dropJoins() {
        TopicSeams x = Due.of("a. a. b. a. a. c. c.");
        x.set(1, 0);
        drops(x, 2, 2, 4);
        drops(x, 3, 2, 6);
        x.set(0, 2);
        drops(x, 1, 2, 6);
        Due.retype(x, "a. b. c. d. e. f. g. h. i. j. k. l.");
        x.set(0, 1);
        drops(x, 8, 0, 3 * 4 + 5);
        drops(x, 1, 0, 121);
    }

    private static void dropWrongInput() {
        TopicSeams x = Due.of("a. b.");
        DUE.is("20: BAD k", x.drop(0, 0), TopicSeams.BAD);
        DUE.is("20: BAD k", x.drop(9, 0), TopicSeams.BAD);
        DUE.is("20: BAD what", x.drop(1, -1), TopicSeams.BAD);
        DUE.is("20: BAD what", x.drop(1, 2), TopicSeams.BAD);
        DUE.is("20: BAD ahead of NONE", x.drop(8, 2), TopicSeams.BAD);
        drops(x, 1, 0, 5);
        drops(x, 2, -1, -1);
        drops(Due.of("a."), 1, -1, -1);
        drops(new TopicSeams(), 1, -1, -1);
    }
}
