import java.io.IOException;
import java.lang.reflect.Method;
import java.nio.file.Files;
import java.nio.file.Path;
import java.util.ArrayList;
import java.util.Arrays;
import java.util.List;
import java.util.regex.Matcher;
import java.util.regex.Pattern;
import java.util.stream.Collectors;
import java.util.stream.Stream;

/** README.md tells what the program answers and every test there is; the edge tests quote the document word by word. */
public final class PagesHold {
    private static final Due DUE = new Due();
    private static final Pattern TEXT = Pattern.compile("String text = \"([a-z. ]*)\";");
    private static final Pattern ASKED = Pattern.compile("x\\.(\\w+)\\(([-\\d, ]*)\\); +// (-?\\d+):");
    private static final Pattern SAYS = Pattern.compile("says\\(((?:\\s*\"(?:[^\"\\\\]|\\\\.)*\"\\s*\\+?)+)\\)");
    private static final Pattern LITERAL = Pattern.compile("\"((?:[^\"\\\\]|\\\\.)*)\"");

    public static void main(String[] args) throws IOException, ReflectiveOperationException {
        Path root = Path.of(args.length > 0 ? args[0] : ".");
        String readme = Files.readString(root.resolve("README.md"));
        exampleHolds(readme.substring(readme.indexOf("```java"), readme.indexOf("```\n\n")));
        List<Path> tests;
        try (Stream<Path> files = Files.list(root.resolve("src/test/java"))) {
            tests = files.sorted().collect(Collectors.toList());
        }
        for (Path test : tests) testIsTold(readme, test);
        String document = Files.readString(root.resolve("../shared/DOC.md")).replaceAll("\\s+", " ");
        for (Path test : tests) wordsAreTheDocuments(document, Files.readString(test));
        DUE.end();
    }

    private static void exampleHolds(String example) throws ReflectiveOperationException {
        Matcher text = TEXT.matcher(example);
        DUE.holds("the example has a text", text.find());
        TopicSeams x = Due.of(text.group(1));
        int asked = 0;
        for (Matcher line = ASKED.matcher(example); line.find(); asked++) {
            DUE.is("README.md: " + line.group(), answer(x, line.group(1), line.group(2)), Integer.parseInt(line.group(3)));
        }
        DUE.is("lines of the example that tell an answer", asked, example.split("//", -1).length - 1);
    }

    private static int answer(TopicSeams x, String name, String list) throws ReflectiveOperationException {
        List<Object> numbers = new ArrayList<>();
        if (!list.isEmpty()) {
            for (String n : list.split(", ")) numbers.add(Integer.parseInt(n));
        }
        Class<?>[] types = new Class<?>[numbers.size()];
        Arrays.fill(types, int.class);
        Method call = TopicSeams.class.getMethod(name, types);
        return (int) call.invoke(x, numbers.toArray());
    }

    private static void testIsTold(String readme, Path test) throws IOException {
        String name = test.getFileName().toString().replace(".java", "");
        boolean isTest = Files.readString(test).contains("public static void main(String[] ");
        DUE.holds("README.md tells of " + name, !isTest || readme.contains("| `" + name + "` |"));
    }

    private static void wordsAreTheDocuments(String document, String source) {
        for (Matcher says = SAYS.matcher(source); says.find();) {
            StringBuilder words = new StringBuilder();
            for (Matcher part = LITERAL.matcher(says.group(1)); part.find();) words.append(part.group(1));
            DUE.holds("the document says: " + words, document.contains(words));
        }
    }
}
