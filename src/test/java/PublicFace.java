import java.io.IOException;
import java.lang.reflect.Field;
import java.lang.reflect.Member;
import java.lang.reflect.Method;
import java.lang.reflect.Modifier;
import java.nio.file.Files;
import java.nio.file.Path;
import java.util.Map;
import java.util.Set;
import java.util.TreeMap;
import java.util.TreeSet;
import java.util.regex.Matcher;
import java.util.regex.Pattern;

/** What is seen of the class from outside, held against "The public face" of the document itself. */
public final class PublicFace {
    private static final Due DUE = new Due();
    private static final Pattern METHOD = Pattern.compile("public (int|long) (\\w+)\\((.*)\\);");
    private static final Pattern CONSTANTS = Pattern.compile("public static final int (.*);");

    public static void main(String[] args) throws IOException {
        String root = args.length > 0 ? args[0] : ".";
        String document = Files.readString(Path.of(root, "../shared/DOC.md"));
        int from = document.indexOf("```java");
        int to = document.indexOf("```", from + 1);
        DUE.holds("the document has a face", from >= 0 && to > from);
        String face = document.substring(Math.max(from, 0), Math.max(to, 0));
        methods(face);
        constants(face);
        theClassItself();
        DUE.end();
    }

    private static String signature(Method m) {
        StringBuilder s = new StringBuilder(m.getReturnType().getName()).append(' ').append(m.getName()).append('(');
        for (Class<?> p : m.getParameterTypes()) s.append(s.charAt(s.length() - 1) == '(' ? "" : ",").append(p.getName());
        return s.append(')').toString();
    }

    private static void methods(String face) {
        Set<String> due = new TreeSet<>();
        Set<String> names = new TreeSet<>();
        for (Matcher m = METHOD.matcher(face); m.find();) {
            due.add(m.group(1) + ' ' + m.group(2) + '(' + m.group(3).replaceAll("int \\w+", "int").replace(" ", "") + ')');
            names.add(m.group(2));
        }
        DUE.is("methods of the document's face", due.size(), 30);
        Set<String> got = new TreeSet<>();
        for (Method m : TopicSeams.class.getDeclaredMethods()) {
            boolean open = Modifier.isPublic(m.getModifiers());
            if (open) got.add(signature(m));
            DUE.holds(m + " is no public method that is static", !open || !Modifier.isStatic(m.getModifiers()));
            DUE.holds(m + " is private or told", open || hidden(m));
            DUE.holds(m + " is private and bears no public name", open || !names.contains(m.getName()));
        }
        DUE.holds("the public methods " + got + " are " + due, got.equals(due));
        for (Class<?> inside : TopicSeams.class.getDeclaredClasses()) {
            for (Method m : inside.getDeclaredMethods()) {
                DUE.holds(m + " bears no public name", !names.contains(m.getName()));
            }
        }
    }

    private static boolean hidden(Member m) {
        return Modifier.isPrivate(m.getModifiers()) || m.isSynthetic();
    }

    private static void constants(String face) {
        Map<String, Integer> due = new TreeMap<>();
        Matcher told = CONSTANTS.matcher(face);
        DUE.holds("the face has constants", told.find());
        for (String one : told.group(1).split(", ")) {
            String[] sides = one.split(" = ");
            due.put(sides[0], Integer.parseInt(sides[1]));
        }
        Map<String, Integer> got = new TreeMap<>();
        for (Field f : TopicSeams.class.getDeclaredFields()) {
            if (hidden(f)) continue;
            int it = f.getModifiers();
            DUE.holds(f + " is a constant", Modifier.isPublic(it) && Modifier.isStatic(it) && Modifier.isFinal(it)
                && f.getType() == int.class);
            got.put(f.getName(), valueOf(f));
        }
        DUE.holds("the constants " + got + " are " + due, got.equals(due));
    }

    private static int valueOf(Field f) {
        try {
            return f.getInt(null);
        } catch (IllegalAccessException e) {
            throw new IllegalStateException(e);
        }
    }

    private static void theClassItself() {
        int type = TopicSeams.class.getModifiers();
        DUE.holds("the class is public and final", Modifier.isPublic(type) && Modifier.isFinal(type));
        DUE.is("constructors", TopicSeams.class.getDeclaredConstructors().length, 1);
        DUE.is("public constructors", TopicSeams.class.getConstructors().length, 1);
        DUE.is("its parameters", TopicSeams.class.getConstructors()[0].getParameterCount(), 0);
        for (Class<?> c : TopicSeams.class.getDeclaredClasses()) {
            int it = c.getModifiers();
            DUE.holds(c + " is static and not public", Modifier.isStatic(it) && !Modifier.isPublic(it)
                && !Modifier.isProtected(it));
        }
    }
}
