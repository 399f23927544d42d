/** Promises 21 to 23: how alike, how deep, how far apart from what was told. */
public final class GapPromises {
    private static final Due DUE = new Due();

    public static void main(String[] args) {
        alike();
        windows();
        gapWrongInput();
        depth();
        plateaus();
        deep();
        deepTies();
        deepWrongInput();
        apart();
        apartCountsSeams();
        apartByBest();
        apartWrongInput();
        DUE.end();
    }

    private static void alikes(TopicSeams x, int... due) {
        for (int g = 1; g <= due.length; g++) DUE.is("21: ALIKE of " + g, x.gap(g, 0), due[g - 1]);
        DUE.is("21: no more", x.gap(due.length + 1, 0), TopicSeams.BAD);
    }

    private static void depths(TopicSeams x, int... due) {
        for (int g = 1; g <= due.length; g++) DUE.is("21: DEPTH of " + g, x.gap(g, 1), due[g - 1]);
        DUE.is("21: no more", x.gap(due.length + 1, 1), TopicSeams.BAD);
    }

    private static void alike() {
        TopicSeams x = Due.of("a a a b. a a b b. c b. c.");
        x.set(3, 1);
        alikes(x, 3, 1, 1);
        x.set(3, 2);
        alikes(x, 3, 1, 1);
    }

    private static void windows() {
        TopicSeams x = Due.of("a. b. c. d. d. c. b. a.");
        x.set(3, 1);
        alikes(x, 0, 0, 0, 1, 0, 0, 0);
        x.set(3, 2);
        alikes(x, 0, 0, 0, 2, 0, 0, 0);
        x.set(3, 3);
        alikes(x, 0, 0, 1, 3, 1, 0, 0);
        x.set(3, 4);
        alikes(x, 0, 0, 2, 4, 2, 0, 0);
    }

    private static void gapWrongInput() {
        TopicSeams x = Due.of("a. a.");
        DUE.is("21: the only one", x.gap(1, 0), 1);
        DUE.is("21: BAD gap", x.gap(0, 0), TopicSeams.BAD);
        DUE.is("21: BAD gap", x.gap(2, 0), TopicSeams.BAD);
        DUE.is("21: BAD gap", x.gap(-1, 1), TopicSeams.BAD);
        DUE.is("21: BAD gap", x.gap(Integer.MAX_VALUE, 1), TopicSeams.BAD);
        DUE.is("21: BAD what", x.gap(1, -1), TopicSeams.BAD);
        DUE.is("21: BAD what", x.gap(1, 2), TopicSeams.BAD);
        DUE.is("21: one sentence", Due.of("a.").gap(1, 0), TopicSeams.BAD);
    }

    private static void depth() {
        TopicSeams x = Due.of("a. b. c. d. d. c. b. a.");
        x.set(3, 4);
        depths(x, 4, 4, 2, 0, 2, 4, 4);
        Due.retype(x, "a a a. a a a b. b c c. c c d.");
        x.set(3, 1);
        alikes(x, 3, 1, 2);
        depths(x, 0, 3, 0);
        depths(Due.of("a. a."), 0);
    }

    /** A way goes on over like ones, and ends ahead of the first that is less. */
    private static void plateaus() {
        TopicSeams x = Due.of("a a. a a b. b. b c. c c d d d. d d d e. e e. e.");
        x.set(3, 1);
        alikes(x, 2, 1, 1, 1, 3, 1, 1);
        depths(x, 0, 3, 3, 3, 0, 2, 2);
        Due.retype(x, "a a a. a a a b. b c c. c c d. d e e e e. e e e e.");
        alikes(x, 3, 1, 2, 1, 4);
        depths(x, 0, 3, 0, 4, 0);
    }

    private static void deeps(TopicSeams x, int... due) {
        for (int i = 0; i <= 10; i++) {
            DUE.is("22: deep " + i, x.deep(i), i < due.length ? due[i] : TopicSeams.NONE);
        }
    }

    private static void deep() {
        TopicSeams x = Due.of("a a a. a a a b. b c c. c c d. d e e e e. e e e e.");
        x.set(3, 1);
        deeps(x, 4, 2, 1, 3, 5);
        Due.retype(x, "a. b. c. d. d. c. b. a.");
        x.set(3, 4);
        deeps(x, 1, 2, 6, 7, 3, 5, 4);
        x.set(3, 1);
        depths(x, 1, 1, 1, 0, 1, 1, 1);
        deeps(x, 1, 2, 3, 5, 6, 7, 4);
    }

    private static void deepTies() {
        deeps(Due.of("a.b.c.d.e.f.g.h.i.j.k.l."), 1, 2, 3, 4, 5, 6, 7, 8, 9, 10, 11);
        deeps(Due.of("a. b."), 1);
    }

    private static void deepWrongInput() {
        deeps(Due.of("a."));
        deeps(new TopicSeams());
        TopicSeams x = Due.of("a. b.");
        DUE.is("22: BAD", x.deep(-1), TopicSeams.BAD);
        DUE.is("22: BAD", x.deep(11), TopicSeams.BAD);
        DUE.is("22: BAD", new TopicSeams().deep(11), TopicSeams.BAD);
    }

    /** BEST into three parts has its seams at 2 and 4. */
    private static void apart() {
        TopicSeams x = Due.of("a. a. b. b. c. c.");
        DUE.is("23: nothing told, 1", x.apart(3, 1), 2);
        DUE.is("23: nothing told, 2", x.apart(3, 2), 4);
        DUE.is("23: nothing told, 3", x.apart(3, 3), 3);
        DUE.is("23: nothing told, 5", x.apart(3, 5), 1);
        DUE.is("23: nothing told, 6", x.apart(3, 6), 0);
        DUE.is("23: nothing told, 11", x.apart(3, 11), 0);
        x.tell(1 << 2 | 1 << 4);
        for (int w = 1; w <= 11; w++) DUE.is("23: told as it is", x.apart(3, w), 0);
        x.tell(1 << 2 | 1 << 4 | 1 << 6 | 1 << 11);
        for (int w = 1; w <= 11; w++) DUE.is("23: no such gaps", x.apart(3, w), 0);
    }

    private static void apartCountsSeams() {
        TopicSeams x = Due.of("a. a. b. b. c. c.");
        x.tell(1 << 3 | 1 << 5);
        DUE.is("23: other places, 1", x.apart(3, 1), 4);
        DUE.is("23: as many, 2", x.apart(3, 2), 1);
        DUE.is("23: as many, 3", x.apart(3, 3), 2);
        DUE.is("23: as many, 4", x.apart(3, 4), 1);
        DUE.is("23: as many, 5", x.apart(3, 5), 0);
        DUE.is("23: one part has no seams", x.apart(1, 5), 1);
        x.tell(1 << 1);
        DUE.is("23: the first gap", x.apart(1, 1), 1);
        x.tell(1 << 5);
        DUE.is("23: the last gap", x.apart(1, 1), 1);
        DUE.is("23: the last gap, 2", x.apart(1, 2), 1);
    }

    private static void apartByBest() {
        TopicSeams x = Due.of("a.b.c.d.e.f.g.h.i.j.k.l.");
        x.tell(1 << 11);
        DUE.is("23: the eleventh gap", x.apart(1, 1), 1);
        DUE.is("23: all gaps at once", x.apart(1, 11), 1);
        DUE.is("23: first against last", x.apart(2, 11), 0);
        DUE.is("23: first against last, 10", x.apart(2, 10), 2);
        DUE.is("23: eight parts", x.apart(8, 1), 8);
        x.set(0, 1);
        DUE.is("23: as RULE wants", x.apart(2, 1), 2);
        x.tell(1 << 6);
        DUE.is("23: as RULE wants", x.apart(2, 1), 0);
    }

    private static void apartWrongInput() {
        TopicSeams x = Due.of("a. b.");
        DUE.is("23: BAD k", x.apart(0, 1), TopicSeams.BAD);
        DUE.is("23: BAD k", x.apart(9, 1), TopicSeams.BAD);
        DUE.is("23: BAD w", x.apart(1, 0), TopicSeams.BAD);
        DUE.is("23: BAD w", x.apart(1, 12), TopicSeams.BAD);
        DUE.is("23: BAD w", x.apart(1, -1), TopicSeams.BAD);
        DUE.is("23: BAD ahead of NONE", x.apart(3, 12), TopicSeams.BAD);
        DUE.is("23: NONE", x.apart(3, 1), TopicSeams.NONE);
        DUE.is("23: NONE of no text", new TopicSeams().apart(1, 1), TopicSeams.NONE);
    }
}
