import java.io.IOException;
import java.lang.reflect.Constructor;
import java.lang.reflect.Field;
import java.lang.reflect.Member;
import java.lang.reflect.Method;
import java.lang.reflect.Modifier;
import java.nio.file.Files;
import java.nio.file.Path;
import java.util.Arrays;
import java.util.Set;
import java.util.TreeSet;
import java.util.regex.Matcher;
import java.util.regex.Pattern;

/** The public face as the document has it, and those rules of LANGUAGE.md that a program can see. */
public final class FaceAndRules {
    private static final Due DUE = new Due();
    private static final String[] FACE = {"int type(int)", "int wipe()", "int undo()", "int fault(int)",
        "int set(int,int)", "int tell(int)", "int read(int)", "int sentence(int,int)", "int word(int,int)",
        "int stem(int,int)", "int letter(int,int)", "int chains()", "int chain(int,int)", "int over(int,int)",
        "int cost(int,int)", "int best(int)", "int seam(int,int)", "int bent()", "int drop(int,int)",
        "int gap(int,int)", "int deep(int)", "int apart(int,int)", "int sheet(int,int,int)", "int lose(int)",
        "int put(int,int,int,int)", "int get(int,int,int)", "int copy(int,int,int,int,int)", "int write(int,int)",
        "int count(int)", "long digest()"};
    private static final String[] FORBIDDEN = {"\\bthrow\\b", "\\btry\\b", "\\bcatch\\b", "\\bsynchronized\\b",
        "\\bassert\\b", "->", "::", "\\bimport\\b", "\\bpackage\\b", "Exact\\b", "\\bprotected\\b", "\\bvar\\b",
        "System\\.(?!arraycopy)", "static \\{", "\\bThread\\b", "\\bObject\\b"};

    public static void main(String[] args) throws IOException {
        face();
        nothingElseIsSeen();
        classesInside();
        String root = args.length > 0 ? args[0] : ".";
        source(Files.readString(Path.of(root, "src/main/java/TopicSeams.java")));
        DUE.end();
    }

    private static String signature(Method m) {
        StringBuilder s = new StringBuilder(m.getReturnType().getName()).append(' ').append(m.getName()).append('(');
        for (Class<?> p : m.getParameterTypes()) s.append(s.charAt(s.length() - 1) == '(' ? "" : ",").append(p.getName());
        return s.append(')').toString();
    }

    private static void face() {
        Set<String> due = new TreeSet<>(Arrays.asList(FACE));
        Set<String> got = new TreeSet<>();
        for (Method m : TopicSeams.class.getDeclaredMethods()) {
            if (Modifier.isPublic(m.getModifiers())) got.add(signature(m));
            DUE.holds("no public method is static: " + m, !Modifier.isPublic(m.getModifiers()) || !Modifier.isStatic(m.getModifiers()));
        }
        DUE.holds("the public methods " + got + " are " + due, got.equals(due));
        int type = TopicSeams.class.getModifiers();
        DUE.holds("the class is public and final", Modifier.isPublic(type) && Modifier.isFinal(type));
        Constructor<?>[] constructors = TopicSeams.class.getConstructors();
        DUE.is("constructors", constructors.length, 1);
        DUE.is("parameters of the constructor", constructors[0].getParameterCount(), 0);
    }

    private static boolean hidden(Member m) {
        return Modifier.isPrivate(m.getModifiers()) || m.isSynthetic();
    }

    private static void nothingElseIsSeen() {
        Set<String> constants = new TreeSet<>(Set.of("NONE", "BAD", "NOT", "FULL"));
        Set<String> names = new TreeSet<>();
        for (String method : FACE) names.add(method.replaceAll("^\\w+ (\\w+)\\(.*", "$1"));
        for (Field f : TopicSeams.class.getDeclaredFields()) {
            DUE.holds("field " + f + " is private or told", hidden(f) || constants.contains(f.getName()));
        }
        for (Method m : TopicSeams.class.getDeclaredMethods()) {
            boolean open = Modifier.isPublic(m.getModifiers());
            DUE.holds("method " + m + " is private or told", open || hidden(m));
            DUE.holds("private " + m + " bears no public name", open || !names.contains(m.getName()));
        }
    }

    private static void classesInside() {
        Class<?>[] inside = TopicSeams.class.getDeclaredClasses();
        DUE.holds("at most twelve classes", inside.length < 12);
        for (Class<?> c : inside) {
            DUE.holds(c + " is static and not public", Modifier.isStatic(c.getModifiers()) && !Modifier.isPublic(c.getModifiers()));
            DUE.holds(c + " has no more than twenty fields", ownFields(c) <= 20);
            staticFieldsAreFinal(c);
            for (Method m : c.getDeclaredMethods()) DUE.holds(m + " takes at most seven", m.getParameterCount() <= 7);
        }
        staticFieldsAreFinal(TopicSeams.class);
        DUE.holds("TopicSeams has no more than twenty fields", ownFields(TopicSeams.class) <= 20);
    }

    private static void staticFieldsAreFinal(Class<?> c) {
        for (Field f : c.getDeclaredFields()) {
            int it = f.getModifiers();
            DUE.holds(f + " is of an object or final", !Modifier.isStatic(it) || Modifier.isFinal(it));
        }
    }

    private static long ownFields(Class<?> c) {
        return Arrays.stream(c.getDeclaredFields()).filter(f -> !Modifier.isStatic(f.getModifiers())).count();
    }

    private static void source(String text) {
        String code = text.replaceAll("(?s)/\\*.*?\\*/", "").replaceAll("//[^\n]*", "");
        for (String word : FORBIDDEN) {
            Matcher found = Pattern.compile(word).matcher(code);
            DUE.holds("the source has no " + word, !found.find());
        }
        DUE.holds("signs from 1 to 127", text.chars().allMatch(c -> c >= 1 && c <= 127));
    }
}
