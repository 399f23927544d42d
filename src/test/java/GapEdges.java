/** The edges that the document names for gaps, depths and what was told, sentence by sentence. */
public final class GapEdges {
    private static final Due DUE = new Due();
    private static final int LEAST = Integer.MIN_VALUE, GREATEST = Integer.MAX_VALUE;
    private static final String TWELVE = "a.b.c.d.e.f.g.h.i.j.k.l.";

    public static void main(String[] args) {
        gapRefusals();
        aheadOfItsSentence();
        windowReach();
        asManyAsThereAre();
        theLesser();
        depthAtTheEnds();
        noLessThanTheOneAhead();
        deepOrder();
        deepNone();
        deepRefusals();
        apartWindows();
        apartTold();
        apartNumbers();
        apartNone();
        apartRefusals();
        DUE.end();
    }

    private static void gapRefusals() {
        DUE.says("GAPS are 1 to less than the number of SENTENCES");
        int[] none = {-1, 0, 12, LEAST, GREATEST};
        for (int n = 0; n <= 12; n++) {
            TopicSeams x = Due.of(TWELVE.substring(0, 2 * n));
            for (int g = 1; g <= 11; g++) {
                DUE.is("gap(" + g + ", 0) of " + n, x.gap(g, 0), g < n ? 0 : TopicSeams.BAD);
                DUE.is("gap(" + g + ", 1) of " + n, x.gap(g, 1), g < n ? 0 : TopicSeams.BAD);
            }
            for (int g : none) DUE.is("gap(" + g + ", 0) of " + n, x.gap(g, 0), TopicSeams.BAD);
        }
        DUE.says("ALIKE (what = 0), DEPTH (1) of a GAP. BAD.");
        TopicSeams x = Due.of("a.a.");
        int[] noWhat = {-1, 2, LEAST, GREATEST};
        for (int what : noWhat) DUE.is("gap(1, " + what + ")", x.gap(1, what), TopicSeams.BAD);
        DUE.is("gap(1, 0)", x.gap(1, 0), 1);
    }

    private static void alikes(TopicSeams x, int... due) {
        for (int g = 1; g <= due.length; g++) DUE.is("gap(" + g + ", 0)", x.gap(g, 0), due[g - 1]);
        DUE.is("gap(" + (due.length + 1) + ", 0)", x.gap(due.length + 1, 0), TopicSeams.BAD);
    }

    private static void depths(TopicSeams x, int... due) {
        for (int g = 1; g <= due.length; g++) DUE.is("gap(" + g + ", 1)", x.gap(g, 1), due[g - 1]);
        DUE.is("gap(" + (due.length + 1) + ", 1)", x.gap(due.length + 1, 1), TopicSeams.BAD);
    }

    private static TopicSeams byWindow(int window, String text) {
        TopicSeams x = Due.of(text);
        x.set(3, window);
        return x;
    }

    private static void aheadOfItsSentence() {
        DUE.says("GAP g is ahead of SENTENCE g.");
        for (int g = 1; g <= 11; g++) {
            StringBuilder text = new StringBuilder(TWELVE);
            text.setCharAt(2 * g - 2, 'x');
            text.setCharAt(2 * g, 'x');
            TopicSeams x = byWindow(1, text.toString());
            for (int other = 1; other <= 11; other++) {
                DUE.is("gap(" + other + ", 0), x around " + g, x.gap(other, 0), other == g ? 1 : 0);
                DUE.is("over(" + other + ", 0), x around " + g, x.over(other, 0), other == g ? 1 : 0);
            }
        }
    }

    /** x stands so far ahead of gap 6 and so far behind it: seen from WINDOW as wide as the farther on. */
    private static void windowReach() {
        DUE.says("of the WINDOW (1 to 4; 2 at first) SENTENCES ahead of it and behind it");
        for (int ahead = 1; ahead <= 6; ahead++) {
            for (int behind = 1; behind <= 6; behind++) {
                StringBuilder text = new StringBuilder(TWELVE);
                text.setCharAt(2 * (6 - ahead), 'x');
                text.setCharAt(2 * (5 + behind), 'x');
                int far = Math.max(ahead, behind);
                String where = ", x " + ahead + " ahead and " + behind + " behind";
                DUE.is("gap(6, 0) at first" + where, Due.of(text.toString()).gap(6, 0), far <= 2 ? 1 : 0);
                for (int window = 1; window <= 4; window++) {
                    TopicSeams x = byWindow(window, text.toString());
                    DUE.is("gap(6, 0) by WINDOW " + window + where, x.gap(6, 0), far <= window ? 1 : 0);
                }
            }
        }
    }

    private static void asManyAsThereAre() {
        DUE.says("(as many as there are)");
        alikes(byWindow(4, "a.a."), 1);
        alikes(byWindow(4, "a.b.a."), 1, 1);
        alikes(byWindow(4, "a.b.c.d.a."), 1, 1, 1, 1);
        alikes(byWindow(4, "a.b.c.d.e.a."), 0, 1, 1, 1, 0);
        alikes(byWindow(1, "a.b.a."), 0, 0);
        alikes(byWindow(2, "a a.a.a a."), 2, 2);
        alikes(byWindow(4, "a.a.a.a.a.a.a.a.a.a.a.a."), 1, 2, 3, 4, 4, 4, 4, 4, 3, 2, 1);
    }

    private static void theLesser() {
        DUE.says("for each STEM the lesser of how many WORDS of it both have, all added up");
        alikes(Due.of("a.b."), 0);
        alikes(Due.of("a a a.a."), 1);
        alikes(Due.of("a.a a a."), 1);
        alikes(Due.of("a a.a a."), 2);
        alikes(Due.of("a a b.b b a."), 2);
        alikes(Due.of("cat cats.cats."), 1);
        alikes(Due.of("a b c d e f g h i.a b c d e f g h i."), 9);
        alikes(byWindow(4, "a a a a a a a a a.".repeat(8)), 9, 18, 27, 36, 27, 18, 9);
    }

    private static void depthAtTheEnds() {
        DUE.says("from it to the left as long as ALIKE is no less than of the one ahead: the greatest on that way less its own; likewise to the right; both added");
        depths(Due.of("a.a."), 0);
        TopicSeams falling = byWindow(1, "a a a.a a a b b.b b c.c.");
        alikes(falling, 3, 2, 1);
        depths(falling, 0, 1, 2);
        TopicSeams rising = byWindow(1, "a.a b b.b b c c c.c c c.");
        alikes(rising, 1, 2, 3);
        depths(rising, 2, 1, 0);
        TopicSeams hill = byWindow(1, "a.a b b.b b c.c.");
        alikes(hill, 1, 2, 1);
        depths(hill, 1, 0, 1);
        TopicSeams valley = byWindow(1, "a a a.a a a b.b c c.c c.");
        alikes(valley, 3, 1, 2);
        depths(valley, 0, 3, 0);
    }

    private static void noLessThanTheOneAhead() {
        DUE.says("as long as ALIKE is no less than of the one ahead");
        TopicSeams flat = byWindow(1, "a a.a a b.b c.c d.d e e.e e.");
        alikes(flat, 2, 1, 1, 1, 2);
        depths(flat, 0, 2, 2, 2, 0);
        TopicSeams steps = byWindow(1, "a a a.a a a b b.b b c c.c c d.d.");
        alikes(steps, 3, 2, 2, 1);
        depths(steps, 0, 1, 1, 2);
        TopicSeams behindADip = byWindow(1, "a a a.a a a b.b c c.c c d.d e e.e e.");
        alikes(behindADip, 3, 1, 2, 1, 2);
        depths(behindADip, 0, 3, 0, 2, 0);
    }

    private static void deeps(TopicSeams x, int... due) {
        for (int i = 0; i <= 10; i++) DUE.is("deep(" + i + ")", x.deep(i), i < due.length ? due[i] : TopicSeams.NONE);
    }

    private static void deepOrder() {
        DUE.says("DEEP: GAPS by DEPTH, the greatest first, of like ones the least first.");
        deeps(byWindow(1, "a.a b b.b b c c c.c c c."), 1, 2, 3);
        deeps(byWindow(1, "a a a.a a a b b.b b c.c."), 3, 2, 1);
        deeps(byWindow(1, "a a.a a b.b c.c d.d e e.e e."), 2, 3, 4, 1, 5);
        deeps(byWindow(1, "a a a.a a a b.b c c.c c d.d e e.e e."), 2, 4, 1, 3, 5);
        deeps(Due.of(TWELVE), 1, 2, 3, 4, 5, 6, 7, 8, 9, 10, 11);
        deeps(byWindow(4, "a.a.a.a.a.a.a.a.a.a.a.a."), 1, 11, 2, 10, 3, 9, 4, 5, 6, 7, 8);
    }

    private static void deepNone() {
        DUE.says("The i-th GAP (0 to 10) as DEEP tells; NONE.");
        for (int n = 0; n <= 12; n++) {
            TopicSeams x = Due.of(TWELVE.substring(0, 2 * n));
            for (int i = 0; i <= 10; i++) DUE.is("deep(" + i + ") of " + n, x.deep(i), i + 1 < n ? i + 1 : TopicSeams.NONE);
        }
    }

    private static void deepRefusals() {
        DUE.says("The i-th GAP (0 to 10) as DEEP tells; NONE. BAD.");
        int[] none = {-1, 11, LEAST, GREATEST};
        for (int i : none) {
            DUE.is("deep(" + i + ")", Due.of(TWELVE).deep(i), TopicSeams.BAD);
            DUE.is("deep(" + i + ") of no TEXT", new TopicSeams().deep(i), TopicSeams.BAD);
        }
    }

    /** One part has no seams, so that every window with a told gap counts. */
    private static void apartWindows() {
        DUE.says("of all w SENTENCES one behind another and the one behind them");
        for (int n = 1; n <= 12; n++) {
            TopicSeams x = Due.of(TWELVE.substring(0, 2 * n));
            x.tell(4094);
            for (int w = 1; w <= 11; w++) {
                DUE.is("apart(1, " + w + ") of " + n, x.apart(1, w), Math.max(0, n - w));
            }
            x.tell(2);
            for (int w = 1; w <= 11; w++) DUE.is("apart(1, " + w + ") of " + n + ", GAP 1", x.apart(1, w), w < n ? 1 : 0);
        }
    }

    private static void apartTold() {
        DUE.says("TOLD are GAPS that somebody else has told as seams, as bits.");
        for (int told = 1; told <= 11; told++) {
            TopicSeams x = Due.of("a.b.c.d.e.f.");
            x.tell(1 << told);
            DUE.is("apart(1, 1), GAP " + told + " of 5", x.apart(1, 1), told <= 5 ? 1 : 0);
            DUE.is("apart(1, 5), GAP " + told + " of 5", x.apart(1, 5), told <= 5 ? 1 : 0);
            DUE.is("apart(2, 1), GAP " + told + " of 5", x.apart(2, 1), told == 1 ? 0 : told <= 5 ? 2 : 1);
            DUE.is("apart(2, 5), GAP " + told + " of 5", x.apart(2, 5), told <= 5 ? 0 : 1);
        }
    }

    private static void apartNumbers() {
        DUE.says("how often the number of seams of BEST between the first and the last of these is not that of GAPS that are TOLD");
        TopicSeams x = Due.of("a.a.b.b.c.c.");
        DUE.is("seam(3, 1)", x.seam(3, 1), 2);
        DUE.is("seam(3, 2)", x.seam(3, 2), 4);
        x.tell(1 << 2);
        DUE.is("one less, 1", x.apart(3, 1), 1);
        DUE.is("one less, 5", x.apart(3, 5), 1);
        x.tell(1 << 2 | 1 << 4);
        DUE.is("the same, 1", x.apart(3, 1), 0);
        DUE.is("the same, 5", x.apart(3, 5), 0);
        x.tell(1 << 2 | 1 << 3 | 1 << 4);
        DUE.is("one more, 1", x.apart(3, 1), 1);
        DUE.is("one more, 5", x.apart(3, 5), 1);
        x.tell(1 << 1 | 1 << 5);
        DUE.is("as many elsewhere, 1", x.apart(3, 1), 4);
        DUE.is("as many elsewhere, 2", x.apart(3, 2), 2);
        DUE.is("as many elsewhere, 5", x.apart(3, 5), 0);
    }

    private static void apartNone() {
        DUE.says("APART; NONE: there is no BEST.");
        for (int n = 0; n <= 9; n++) {
            TopicSeams x = Due.of(TWELVE.substring(0, 2 * n));
            for (int k = 1; k <= 8; k++) {
                DUE.is("apart(" + k + ", 1) of " + n, x.apart(k, 1), k <= n ? k - 1 : TopicSeams.NONE);
                DUE.is("apart(" + k + ", 11) of " + n, x.apart(k, 11), k <= n ? 0 : TopicSeams.NONE);
            }
        }
    }

    private static void apartRefusals() {
        DUE.says("APART of k and a number w (1 to 11)");
        int[] noParts = {-1, 0, 9, LEAST, GREATEST};
        int[] noNumber = {-1, 0, 12, 31, 32, LEAST, GREATEST};
        TopicSeams[] all = {new TopicSeams(), Due.of("a."), Due.of(TWELVE)};
        for (TopicSeams x : all) {
            for (int k : noParts) DUE.is("apart(" + k + ", 1)", x.apart(k, 1), TopicSeams.BAD);
            for (int w : noNumber) DUE.is("apart(1, " + w + ")", x.apart(1, w), TopicSeams.BAD);
            for (int w : noNumber) DUE.is("apart(8, " + w + ")", x.apart(8, w), TopicSeams.BAD);
        }
        DUE.is("apart(1, 11) of twelve", Due.of(TWELVE).apart(1, 11), 0);
    }
}
