import java.util.ArrayList;
import java.util.List;
import java.util.function.ToIntFunction;

/** Refusals: which comes first, and that they change nothing; asking changes nothing either. */
public final class RefusalEdges {
    private static final Due DUE = new Due();
    private static final int LEAST = Integer.MIN_VALUE, GREATEST = Integer.MAX_VALUE;
    private static final int BAD = TopicSeams.BAD;

    /** A call, the answer that is due to it, and the number of its finding, 0 if it is none. */
    private record Refused(String call, int due, int finding, ToIntFunction<TopicSeams> act) {
    }

    private static final List<Refused> REFUSED = new ArrayList<>();

    public static void main(String[] args) {
        listText();
        listSentences();
        listPartings();
        listSheets();
        listCopies();
        theyChangeNothing();
        fullChangesNothing();
        notChangesNothing();
        readOfNoneChangesNothing();
        askingChangesNothing();
        firstThatFits();
        DUE.end();
    }

    private static void refused(String call, int due, ToIntFunction<TopicSeams> act) {
        REFUSED.add(new Refused(call, due, due <= Due.NULL && due >= Due.SIZE ? -10 - due : 0, act));
    }

    private static void get(String call, int finding, ToIntFunction<TopicSeams> act) {
        REFUSED.add(new Refused(call, LEAST, finding, act));
    }

    private static void listText() {
        refused("type(-1)", BAD, x -> x.type(-1));
        refused("type(256)", BAD, x -> x.type(256));
        refused("type(353)", BAD, x -> x.type(256 + 'a'));
        refused("fault(-1)", BAD, x -> x.fault(-1));
        refused("fault(3)", BAD, x -> x.fault(3));
        refused("set(-1, 1)", BAD, x -> x.set(-1, 1));
        refused("set(4, 1)", BAD, x -> x.set(4, 1));
        refused("set(0, -1)", BAD, x -> x.set(0, -1));
        refused("set(0, 4)", BAD, x -> x.set(0, 4));
        refused("set(1, -1)", BAD, x -> x.set(1, -1));
        refused("set(1, 41)", BAD, x -> x.set(1, 41));
        refused("set(2, 0)", BAD, x -> x.set(2, 0));
        refused("set(2, 5)", BAD, x -> x.set(2, 5));
        refused("set(3, 0)", BAD, x -> x.set(3, 0));
        refused("set(3, 5)", BAD, x -> x.set(3, 5));
        refused("tell(1)", BAD, x -> x.tell(1));
        refused("tell(4096)", BAD, x -> x.tell(4096));
        refused("tell(-2)", BAD, x -> x.tell(-2));
        refused("read(-1)", BAD, x -> x.read(-1));
        refused("read(4)", BAD, x -> x.read(4));
        refused("read(3)", Due.NULL, x -> x.read(3));
    }

    private static void listSentences() {
        refused("sentence(-1, 0)", BAD, x -> x.sentence(-1, 0));
        refused("sentence(12, 0)", BAD, x -> x.sentence(12, 0));
        refused("sentence(0, 4)", BAD, x -> x.sentence(0, 4));
        refused("word(-1, 0)", BAD, x -> x.word(-1, 0));
        refused("word(0, -1)", BAD, x -> x.word(0, -1));
        refused("word(0, 9)", BAD, x -> x.word(0, 9));
        refused("stem(-1, 0)", BAD, x -> x.stem(-1, 0));
        refused("stem(0, 4)", BAD, x -> x.stem(0, 4));
        refused("stem(100, 0)", BAD, x -> x.stem(100, 0));
        refused("letter(-1, 0)", BAD, x -> x.letter(-1, 0));
        refused("letter(0, 10)", BAD, x -> x.letter(0, 10));
        refused("chain(-1, 0)", BAD, x -> x.chain(-1, 0));
        refused("chain(100, 0)", BAD, x -> x.chain(100, 0));
        refused("chain(0, 5)", BAD, x -> x.chain(0, 5));
        refused("over(0, 0)", BAD, x -> x.over(0, 0));
        refused("over(12, 0)", BAD, x -> x.over(12, 0));
        refused("over(1, 2)", BAD, x -> x.over(1, 2));
    }

    private static void listPartings() {
        refused("cost(-1, 1)", BAD, x -> x.cost(-1, 1));
        refused("cost(0, 13)", BAD, x -> x.cost(0, 13));
        refused("cost(13, 13)", BAD, x -> x.cost(13, 13));
        refused("cost(0, 0)", TopicSeams.NOT, x -> x.cost(0, 0));
        refused("best(0)", BAD, x -> x.best(0));
        refused("best(9)", BAD, x -> x.best(9));
        refused("seam(0, 0)", BAD, x -> x.seam(0, 0));
        refused("seam(9, 0)", BAD, x -> x.seam(9, 0));
        refused("seam(1, 8)", BAD, x -> x.seam(1, 8));
        refused("drop(0, 0)", BAD, x -> x.drop(0, 0));
        refused("drop(9, 0)", BAD, x -> x.drop(9, 0));
        refused("drop(1, 2)", BAD, x -> x.drop(1, 2));
        refused("gap(0, 0)", BAD, x -> x.gap(0, 0));
        refused("gap(12, 0)", BAD, x -> x.gap(12, 0));
        refused("gap(1, 2)", BAD, x -> x.gap(1, 2));
        refused("deep(-1)", BAD, x -> x.deep(-1));
        refused("deep(11)", BAD, x -> x.deep(11));
        refused("apart(0, 1)", BAD, x -> x.apart(0, 1));
        refused("apart(9, 1)", BAD, x -> x.apart(9, 1));
        refused("apart(1, 0)", BAD, x -> x.apart(1, 0));
        refused("apart(1, 12)", BAD, x -> x.apart(1, 12));
        refused("count(-1)", BAD, x -> x.count(-1));
        refused("count(9)", BAD, x -> x.count(9));
    }

    /** Of the sheets that the state below has: 0 bytes, 1 shorts, 2 ints, 3 LOST. */
    private static void listSheets() {
        refused("sheet(-1, 0, 1)", BAD, x -> x.sheet(-1, 0, 1));
        refused("sheet(4, 0, 1)", BAD, x -> x.sheet(4, 0, 1));
        refused("sheet(0, -1, 1)", BAD, x -> x.sheet(0, -1, 1));
        refused("sheet(0, 3, 1)", BAD, x -> x.sheet(0, 3, 1));
        refused("sheet(0, 0, 61)", BAD, x -> x.sheet(0, 0, 61));
        refused("sheet(3, 0, 61)", BAD, x -> x.sheet(3, 0, 61));
        refused("sheet(0, 0, -1)", Due.SIZE, x -> x.sheet(0, 0, -1));
        refused("sheet(3, 2, -1)", Due.SIZE, x -> x.sheet(3, 2, -1));
        refused("lose(-1)", BAD, x -> x.lose(-1));
        refused("lose(4)", BAD, x -> x.lose(4));
        refused("lose(3)", Due.NULL, x -> x.lose(3));
        refused("put(4, 0, 0, 1)", BAD, x -> x.put(4, 0, 0, 1));
        refused("put(0, 3, 0, 1)", BAD, x -> x.put(0, 3, 0, 1));
        refused("put(3, 0, 0, 1)", Due.NULL, x -> x.put(3, 0, 0, 1));
        refused("put(0, 1, 0, 1)", Due.CAST, x -> x.put(0, 1, 0, 1));
        refused("put(2, 0, 0, 1)", Due.CAST, x -> x.put(2, 0, 0, 1));
        refused("put(1, 1, -1, 1)", Due.INDEX, x -> x.put(1, 1, -1, 1));
        refused("put(1, 1, 4, 1)", Due.INDEX, x -> x.put(1, 1, 4, 1));
        get("get(4, 0, 0)", 0, x -> x.get(4, 0, 0));
        get("get(0, 3, 0)", 0, x -> x.get(0, 3, 0));
        get("get(3, 0, 0)", 1, x -> x.get(3, 0, 0));
        get("get(0, 1, 0)", 3, x -> x.get(0, 1, 0));
        get("get(1, 1, 4)", 2, x -> x.get(1, 1, 4));
        refused("write(0, 0)", BAD, x -> x.write(0, 0));
        refused("write(9, 0)", BAD, x -> x.write(9, 0));
        refused("write(1, 4)", BAD, x -> x.write(1, 4));
        refused("write(1, 3)", Due.NULL, x -> x.write(1, 3));
    }

    private static void listCopies() {
        refused("copy(-1, 0, 0, 0, 1)", BAD, x -> x.copy(-1, 0, 0, 0, 1));
        refused("copy(0, 0, 4, 0, 1)", BAD, x -> x.copy(0, 0, 4, 0, 1));
        refused("copy(3, 0, 0, 0, 1)", Due.NULL, x -> x.copy(3, 0, 0, 0, 1));
        refused("copy(0, 0, 3, 0, 1)", Due.NULL, x -> x.copy(0, 0, 3, 0, 1));
        refused("copy(0, 0, 1, 0, 1)", Due.STORE, x -> x.copy(0, 0, 1, 0, 1));
        refused("copy(2, 0, 0, 0, 1)", Due.STORE, x -> x.copy(2, 0, 0, 0, 1));
        refused("copy(2, 0, 2, 1, 5)", Due.INDEX, x -> x.copy(2, 0, 2, 1, 5));
        refused("copy(2, 1, 2, 0, 5)", Due.INDEX, x -> x.copy(2, 1, 2, 0, 5));
        refused("copy(2, -1, 2, 0, 2)", Due.INDEX, x -> x.copy(2, -1, 2, 0, 2));
        refused("copy(2, 0, 2, -1, 2)", Due.INDEX, x -> x.copy(2, 0, 2, -1, 2));
        refused("copy(2, 0, 2, 1, -1)", Due.INDEX, x -> x.copy(2, 0, 2, 1, -1));
        refused("copy(2, 1, 2, 0, greatest)", Due.INDEX, x -> x.copy(2, 1, 2, 0, GREATEST));
    }

    /** Nothing in it is as it is at first. */
    private static TopicSeams state(String text) {
        TopicSeams x = Due.of(text);
        x.set(0, 1);
        x.set(1, 2);
        x.set(2, 3);
        x.set(3, 1);
        x.tell(2 | 16);
        for (int s = 0; s <= 2; s++) {
            x.sheet(s, s, 3 + s);
            for (int i = 0; i < 3 + s; i++) x.put(s, s, i, 100 * s + 10 + i);
        }
        return x;
    }

    /** All that can be asked but the latest finding; what is left of the object is used up by it. */
    private static List<Long> seen(TopicSeams x) {
        List<Long> all = new ArrayList<>();
        all.add(x.digest());
        for (int s = 0; s <= 3; s++) {
            for (int form = 0; form <= 2; form++) {
                for (int i = 0; i <= 6; i++) all.add((long) x.get(s, form, i));
            }
            all.add((long) x.lose(s));
        }
        all.add((long) x.set(2, 1));
        all.add((long) x.set(3, 1));
        all.add(x.digest());
        for (int left = x.undo(); left >= 0; left = x.undo()) {
            all.add((long) left);
            all.add((long) x.fault(0) * 100 + x.fault(1) * 10 + x.fault(2));
            all.add((long) x.count(2));
        }
        return all;
    }

    private static void same(String call, List<Long> got, List<Long> due) {
        DUE.is("how much is seen behind " + call, got.size(), due.size());
        for (int i = 0; i < due.size() && i < got.size(); i++) {
            if (!got.get(i).equals(due.get(i))) DUE.is("what is seen at " + i + " behind " + call, got.get(i), due.get(i));
        }
    }

    private static void theyChangeNothing() {
        DUE.says("They change nothing (FINDINGS but count() 8).");
        String[] texts = {"cat dog. cats. dog ran. sea. sea cat.", "", "a. b", "a. B."};
        for (String text : texts) {
            List<Long> due = seen(state(text));
            for (Refused r : REFUSED) {
                TopicSeams x = state(text);
                x.sheet(0, 0, -1);
                x.digest();
                DUE.is(r.call, r.act.applyAsInt(x), r.due);
                DUE.is("count(8) behind " + r.call, x.count(8), r.finding == 0 ? 5 : r.finding);
                same(r.call, seen(x), due);
            }
        }
    }

    private static void fullChangesNothing() {
        DUE.says("A byte (0 to 255) comes behind THE TEXT: how many. BAD; FULL.");
        String text = "a b c d e f g h i.".repeat(11) + "z.";
        int[] bytes = {'a', '.', ' ', 0, 255};
        for (int b : bytes) {
            TopicSeams x = state(text);
            long was = x.digest();
            DUE.is("type(" + b + ")", x.type(b), TopicSeams.FULL);
            DUE.is("digest()", x.digest(), was);
            DUE.is("count(8)", x.count(8), 0);
        }
    }

    private static void notChangesNothing() {
        DUE.says("NOT: it is empty.");
        List<Long> due = seen(state(""));
        TopicSeams x = state("");
        DUE.is("undo()", x.undo(), TopicSeams.NOT);
        DUE.is("count(8)", x.count(8), 0);
        same("undo()", seen(x), due);
    }

    /** None of these is a refusal, but nothing comes, so nothing changes. */
    private static void readOfNoneChangesNothing() {
        DUE.says("its items, as many as may: how many");
        String text = "cat dog. cats.";
        TopicSeams none = state(text);
        none.sheet(3, 1, 2);
        none.put(3, 1, 0, 256);
        none.put(3, 1, 1, 'a');
        long was = none.digest();
        DUE.is("read(3), no byte", none.read(3), 0);
        DUE.is("digest()", none.digest(), was);
        DUE.is("count(8)", none.count(8), 0);
        DUE.says("(none, where there is no BEST)");
        List<Long> due = seen(state(text));
        TopicSeams x = state(text);
        DUE.is("write(3, 2)", x.write(3, 2), 0);
        same("write(3, 2)", seen(x), due);
    }

    private static void askingChangesNothing() {
        DUE.says("Nothing is promised beyond the answers and state changes described above");
        String text = "cat dog. cats. dog ran. sea. sea cat.";
        TopicSeams x = state(text);
        for (int v = 0; v <= 8; v++) x.count(v);
        for (int v = 0; v <= 2; v++) x.fault(v);
        for (int v = 0; v <= 4; v++) {
            x.sentence(v, v);
            x.word(v, 0);
            x.stem(v, v);
            x.letter(v, 0);
            x.chain(0, v);
            x.over(v, 0);
            x.gap(v, 1);
            x.deep(v);
        }
        for (int k = 1; k <= 8; k++) {
            x.best(k);
            x.seam(k, 1);
            x.drop(k, 0);
            x.apart(k, 3);
        }
        x.chains();
        x.cost(0, 3);
        x.bent();
        x.get(1, 1, 0);
        x.digest();
        same("all questions", seen(x), seen(state(text)));
    }

    /** Each of put's and get's numbers well or not, in all ways: the first that fits, in the order told. */
    private static void firstThatFits() {
        DUE.says("Refusals, the first that fits, in the order told at each act: BAD -2 (a number not as told, no such thing), NULL, NOT -3 (as told), FULL -4, other FINDINGS.");
        int[] sheets = {-1, 0, 3, 4};
        int[] forms = {-1, 0, 1, 3};
        int[] items = {-1, 0, 3, GREATEST};
        for (int s : sheets) {
            for (int form : forms) {
                for (int i : items) {
                    boolean bad = s < 0 || s > 3 || form < 0 || form > 2;
                    int finding = bad ? 0 : s == 3 ? 1 : form != 0 ? 3 : i != 0 ? 2 : 0;
                    int put = bad ? BAD : finding == 0 ? 1 : -10 - finding;
                    String at = "(" + s + ", " + form + ", " + i;
                    TopicSeams x = state("a.");
                    DUE.is("put" + at + ", 7)", x.put(s, form, i, 7), put);
                    DUE.is("count(8) behind put" + at + ", 7)", x.count(8), finding);
                    x = state("a.");
                    DUE.is("get" + at + ")", x.get(s, form, i), bad || finding != 0 ? LEAST : 10);
                    DUE.is("count(8) behind get" + at + ")", x.count(8), finding);
                }
            }
        }
        int[] sizes = {-1, 61, LEAST, GREATEST};
        int[] twoForms = {0, 3};
        for (int s : sheets) {
            for (int form : twoForms) {
                for (int n : sizes) {
                    boolean bad = s < 0 || s > 3 || form > 2 || n > 60;
                    DUE.is("sheet(" + s + ", " + form + ", " + n + ")", state("a.").sheet(s, form, n), bad ? BAD : Due.SIZE);
                }
            }
        }
        TopicSeams full = state("a b c d e f g h i.".repeat(11) + "z.");
        DUE.is("type(256) to a full one", full.type(256), BAD);
        DUE.is("cost(13, 13)", full.cost(13, 13), BAD);
        DUE.is("cost(12, 12)", full.cost(12, 12), TopicSeams.NOT);
    }
}
