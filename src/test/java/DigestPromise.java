import java.util.function.Supplier;

/** Promise 31: the digest, from answers written out by hand. */
public final class DigestPromise {
    private static final Due DUE = new Due();
    private long h = 17;

    public static void main(String[] args) {
        DUE.is("31: no text", new TopicSeams().digest(), ofNoText());
        DUE.is("31: two sentences", twoSentences().digest(), ofTwoSentences());
        DUE.is("31: a fault", Due.of("a").digest(), ofFault());
        edges();
        changesNothing();
        tellsApart();
        DUE.end();
    }

    private DigestPromise add(int... answers) {
        for (int answer : answers) h = 31 * h + answer;
        return this;
    }

    private DigestPromise times(int n, int answer) {
        for (int i = 0; i < n; i++) add(answer);
        return this;
    }

    /** What is asked of 0 to 11 from a sentence on that is not there. */
    private DigestPromise noSentences(int from) {
        for (int it = from; it <= 11; it++) times(10, -2).add(it == 11 ? -2 : -1);
        return this;
    }

    private static long ofNoText() {
        return new DigestPromise().add(0, 0, 0, 0, 0, 0, 3, 0).add(-1, -1, -1).noSentences(0).times(50, -1)
            .times(8 * 13, -1).add(0).h;
    }

    private static long ofFault() {
        return new DigestPromise().add(1, 0, 0, 0, 0, 0, 3, 0).add(1, 5, 0).noSentences(0).times(50, -1)
            .times(8 * 13, -1).add(0).h;
    }

    private static TopicSeams twoSentences() {
        TopicSeams x = Due.of("deer b a. b.");
        x.set(0, 1);
        x.set(1, 5);
        x.tell(2);
        return x;
    }

    private static long ofTwoSentences() {
        DigestPromise due = new DigestPromise();
        due.add(12, 2, 4, 3, 1, 1, 5, 2).add(-1, -1, -1);
        due.add(3, 3, 3, 0).add(0, 2).add(-2, -2).add(-2, -2).add(1);
        due.add(1, 1, 1, 10).add(1, -2).add(1, 0).add(1, 4).add(-1);
        due.noSentences(2);
        due.add(4, 1, 0, 0, 'd', 'r').add(1, 2, 0, 1, 'b', -2).add(1, 1, 0, 0, 'a', -2);
        due.add(1, 0, 1, 2, 4).times(45, -1);
        due.add(-3, 14).add(14, 6);
        due.add(14).add(0).times(7, -1).add(0, 6).add(1, 0);
        due.add(20).add(0, 1).times(6, -1).add(-1, -1).add(0, 0);
        due.times(6 * 13, -1);
        return due.add(0).h;
    }

    /**
     * Here the parts are the object's own answers: what is tested is which come, and in what order.
     * Each part has an object of its own, since one is used for at most 512 calls.
     */
    private static long ofAnswers(Supplier<TopicSeams> made) {
        DigestPromise due = new DigestPromise();
        TopicSeams x = made.get();
        int sentences = x.count(1);
        int stems = x.count(3);
        for (int what = 0; what <= 7; what++) due.add(x.count(what));
        due.add(x.fault(0), x.fault(1), x.fault(2));
        for (int it = 0; it <= 11; it++) {
            due.add(x.sentence(it, 0), x.sentence(it, 1), x.sentence(it, 2), x.sentence(it, 3));
            due.add(x.word(it, 0), x.word(it, 2), x.gap(it, 0), x.gap(it, 1), x.over(it, 0), x.over(it, 1), x.deep(it));
        }
        for (int it = 0; it < stems; it++) {
            TopicSeams y = made.get();
            due.add(y.stem(it, 0), y.stem(it, 1), y.stem(it, 2), y.stem(it, 3), y.letter(it, 0), y.letter(it, 3));
        }
        x = made.get();
        for (int it = 0; it <= 9; it++) {
            for (int what = 0; what <= 4; what++) due.add(x.chain(it, what));
        }
        for (int it = 0; it < sentences; it++) due.add(x.cost(0, it), x.cost(it, sentences));
        x = made.get();
        for (int k = 1; k <= 8; k++) {
            due.add(x.best(k));
            for (int i = 0; i <= 7; i++) due.add(x.seam(k, i));
            due.add(x.drop(k, 0), x.drop(k, 1), x.apart(k, 1), x.apart(k, 3));
        }
        return due.add(x.bent()).h;
    }

    private static void ofText(String text) {
        for (int rule = 0; rule <= 3; rule++) {
            int by = rule;
            Supplier<TopicSeams> made = () -> {
                TopicSeams x = Due.of(text);
                x.set(0, by);
                x.set(1, 10 * by);
                x.set(2, 1 + by);
                x.set(3, 4 - by);
                x.tell(1 << by + 3 | 16);
                return x;
            };
            DUE.is("31: of '" + text + "' by RULE " + rule, made.get().digest(), ofAnswers(made));
        }
    }

    private static String manyStems() {
        StringBuilder text = new StringBuilder();
        for (int w = 0; w < 75; w++) {
            if (w >= 26) text.append((char) ('a' + (w - 26) / 26));
            text.append((char) ('a' + w % 26)).append(w % 9 == 8 || w == 74 ? '.' : ' ');
        }
        return text.toString();
    }

    /** No sentence, one, twelve; more chains than come into it; the most stems; letters 0 and 3 of short stems. */
    private static void edges() {
        String[] texts = {"", "a.", "abc.", "abcd.", "abcdefghij.", "a. b", "A", "a.a.", "a.b.c.d.e.f.g.h.i.j.k.l.",
            "a a b b c c d d e.f f g g h h i i e.".repeat(5) + "a a b b c c d d e.e.", manyStems(),
            "fish fished sea. sea ships. ship dog. dogs. cat. a b c. a. b. c c. d e. f. a."};
        for (String text : texts) ofText(text);
    }

    private static void changesNothing() {
        TopicSeams x = twoSentences();
        x.sheet(2, 1, 3);
        x.sheet(0, 0, -1);
        long first = x.digest();
        DUE.is("31: again", x.digest(), first);
        DUE.is("31: the latest FINDING stays", x.count(8), 5);
        x.lose(3);
        DUE.is("31: FINDINGS are not in it", x.digest(), first);
        DUE.is("31: SHEETS stay", x.lose(2), 3);
        DUE.is("31: bytes stay", x.count(0), 12);
    }

    private static void tellsApart() {
        TopicSeams x = twoSentences();
        long first = x.digest();
        x.set(1, 6);
        DUE.holds("31: FEE is in it", x.digest() != first);
        x.set(1, 5);
        DUE.is("31: FEE as it was", x.digest(), first);
        x.tell(4);
        DUE.holds("31: TOLD is in it", x.digest() != first);
        x.tell(2);
        x.undo();
        DUE.holds("31: THE TEXT is in it", x.digest() != first);
        x.type('.');
        DUE.is("31: THE TEXT as it was", x.digest(), first);
    }
}
