/** Counts the answers that are not the ones that are due, and holds what several tests use. */
final class Due {
    static final int LEAST_INT = Integer.MIN_VALUE;
    static final int NULL = -11, INDEX = -12, CAST = -13, STORE = -14, SIZE = -15;

    private int wrong = 0;
    private int asked = 0;
    private String sentence = "";

    /** The document's own words, which the answers from here on are held against. */
    void says(String words) {
        sentence = "\"" + words + "\": ";
    }

    void is(String call, long got, long want) {
        asked++;
        if (got == want) return;
        wrong++;
        System.out.println(sentence + call + " answered " + got + ", due is " + want);
    }

    void holds(String what, boolean it) {
        is(what, it ? 1 : 0, 1);
    }

    /** Ends the program with code 1 if an answer was wrong, or if there was no question at all. */
    void end() {
        System.out.println(asked + " answers, " + wrong + " not as due");
        if (wrong != 0 || asked == 0) System.exit(1);
    }

    static TopicSeams of(String text) {
        TopicSeams x = new TopicSeams();
        typeAll(x, text);
        return x;
    }

    static void typeAll(TopicSeams x, String text) {
        for (int p = 0; p < text.length(); p++) x.type(text.charAt(p));
    }

    /** The same text over and over, from an empty one on. */
    static void retype(TopicSeams x, String text) {
        x.wipe();
        typeAll(x, text);
    }
}
