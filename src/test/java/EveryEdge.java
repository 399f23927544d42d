import java.lang.reflect.InvocationTargetException;
import java.lang.reflect.Method;
import java.lang.reflect.Modifier;
import java.util.Arrays;
import java.util.Comparator;

/**
 * Every act of the face with numbers from far below to far above what is told, in all ways, held
 * against the model in several states. No call may throw, whatever its numbers are.
 */
public final class EveryEdge {
    private static final Due DUE = new Due();
    private static final int LEAST = Integer.MIN_VALUE, GREATEST = Integer.MAX_VALUE;
    private static final String[] TEXTS = {"", "a.", "a b. a", "cats b. cat. b d cat.", "a.b.c.d.e.f.g.h.i.j.k.l.",
        "a b.b c.a.d d.d e.e.e a.f.f g.g.g a.a."};
    /** The more numbers an act takes, the fewer of each are tried. */
    private static final int[][] EDGES = {{},
        {LEAST, -129, -2, -1, 0, 1, 2, 3, 4, 5, 7, 8, 9, 10, 11, 12, 13, 31, 32, 33, 46, 60, 61, 96, 97, 99, 100, 122, 123, 127,
            128, 255, 256, 4093, 4094, 4095, 4096, 65536, 65633, GREATEST - 1, GREATEST},
        {LEAST, -2, -1, 0, 1, 2, 3, 4, 5, 6, 7, 8, 9, 10, 11, 12, 13, 14, 39, 40, 41, 99, 100, 107, 108, 109, GREATEST},
        {LEAST, -1, 0, 1, 2, 3, 4, 5, 59, 60, 61, GREATEST},
        {LEAST, -1, 0, 1, 2, 3, 4, 5, 128, 32768, GREATEST},
        {LEAST, -1, 0, 1, 2, 3, 4, 5, GREATEST}};
    /** An object is used for at most 512 calls; the state takes up to 80, what is left to see 90. */
    private static final int MOST_CALLS = 300;

    private final String text;
    private TopicSeams x;
    private Model model;
    private int calls;

    private EveryEdge(String text) {
        this.text = text;
        begin();
    }

    public static void main(String[] args) throws ReflectiveOperationException {
        Method[] face = TopicSeams.class.getDeclaredMethods();
        Arrays.sort(face, Comparator.comparing(Method::getName));
        for (String text : TEXTS) {
            EveryEdge edges = new EveryEdge(text);
            for (Method act : face) {
                if (edges.matters(act)) edges.tryAll(act, new int[act.getParameterCount()], 0);
            }
            edges.end();
        }
        DUE.end();
    }

    /** Acts that take three numbers or more are about sheets alone, so that one text is enough. */
    private boolean matters(Method act) {
        if (!Modifier.isPublic(act.getModifiers())) return false;
        return act.getParameterCount() < 3 || text.equals(TEXTS[3]);
    }

    private void begin() {
        x = new TopicSeams();
        model = new Model();
        calls = 0;
        for (int p = 0; p < text.length(); p++) {
            x.type(text.charAt(p));
            model.type(text.charAt(p));
        }
        makeSheet(0, 0, 4);
        makeSheet(2, 2, 4);
        makeSheet(3, 2, 3);
    }

    private void makeSheet(int s, int form, int n) {
        x.sheet(s, form, n);
        model.sheet(s, form, n);
        for (int i = 0; i < n; i++) {
            x.put(s, form, i, "ab. ".charAt(i));
            model.put(s, form, i, "ab. ".charAt(i));
        }
    }

    /** What was done must have left both alike. */
    private void end() {
        DUE.is("digest() at last", x.digest(), model.digest());
        for (int s = 0; s < 4; s++) {
            for (int form = 0; form < 3; form++) {
                for (int i = 0; i < 5; i++) DUE.is("get() at last", x.get(s, form, i), model.get(s, form, i));
            }
            DUE.is("lose() at last", x.lose(s), model.lose(s));
        }
        DUE.is("set(2, 1) at last", x.set(2, 1), model.set(2, 1));
        DUE.is("set(3, 1) at last", x.set(3, 1), model.set(3, 1));
    }

    private void tryAll(Method act, int[] numbers, int from) throws ReflectiveOperationException {
        if (from == numbers.length) {
            tryOne(act, numbers);
            return;
        }
        for (int edge : EDGES[numbers.length]) {
            numbers[from] = edge;
            tryAll(act, numbers, from + 1);
        }
    }

    private void tryOne(Method act, int[] numbers) throws ReflectiveOperationException {
        if (calls == MOST_CALLS) {
            end();
            begin();
        }
        calls++;
        Method due = Model.class.getDeclaredMethod(act.getName(), act.getParameterTypes());
        Object[] given = Arrays.stream(numbers).boxed().toArray();
        String call = act.getName() + Arrays.toString(numbers) + " with '" + text + "'";
        try {
            DUE.is(call, ((Number) act.invoke(x, given)).longValue(), ((Number) due.invoke(model, given)).longValue());
        } catch (InvocationTargetException e) {
            DUE.holds(call + " threw " + e.getCause(), false);
        }
    }
}
