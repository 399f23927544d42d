import com.sun.source.tree.BinaryTree;
import com.sun.source.tree.BlockTree;
import com.sun.source.tree.ClassTree;
import com.sun.source.tree.CompilationUnitTree;
import com.sun.source.tree.CompoundAssignmentTree;
import com.sun.source.tree.MemberSelectTree;
import com.sun.source.tree.MethodInvocationTree;
import com.sun.source.tree.MethodTree;
import com.sun.source.tree.NewArrayTree;
import com.sun.source.tree.NewClassTree;
import com.sun.source.tree.Tree;
import com.sun.source.tree.TypeCastTree;
import com.sun.source.tree.VariableTree;
import com.sun.source.util.JavacTask;
import com.sun.source.util.TreePath;
import com.sun.source.util.TreePathScanner;
import com.sun.source.util.Trees;
import java.io.IOException;
import java.nio.file.Files;
import java.nio.file.Path;
import java.util.EnumSet;
import java.util.HashMap;
import java.util.HashSet;
import java.util.List;
import java.util.Map;
import java.util.Set;
import javax.lang.model.element.Element;
import javax.lang.model.element.ElementKind;
import javax.lang.model.element.Modifier;
import javax.lang.model.type.TypeMirror;
import javax.tools.JavaCompiler;
import javax.tools.StandardJavaFileManager;
import javax.tools.ToolProvider;

/**
 * The rules of LANGUAGE.md, as far as they are seen in the tree that the compiler makes of the class. Some things that
 * the rules allow behind a test are ruled out here, as the class has no need of them: divisors, texts, references
 * that may be null, objects made by a call.
 */
public final class RulesOfLanguage {
    private static final Due DUE = new Due();
    private static final Set<String> LIBRARY = Set.of("java.lang.Math.min", "java.lang.Math.max",
        "java.lang.Integer.bitCount", "java.lang.System.arraycopy");
    private static final Set<Tree.Kind> RULED_OUT = EnumSet.of(Tree.Kind.THROW, Tree.Kind.TRY, Tree.Kind.CATCH,
        Tree.Kind.SYNCHRONIZED, Tree.Kind.ASSERT, Tree.Kind.LAMBDA_EXPRESSION, Tree.Kind.MEMBER_REFERENCE,
        Tree.Kind.INSTANCE_OF, Tree.Kind.DIVIDE, Tree.Kind.REMAINDER, Tree.Kind.DIVIDE_ASSIGNMENT,
        Tree.Kind.REMAINDER_ASSIGNMENT, Tree.Kind.STRING_LITERAL, Tree.Kind.IMPORT, Tree.Kind.PACKAGE);
    private static final Set<String> NUMBERS = Set.of("int", "long", "boolean");
    private static final int MOST_LINES = 60, MOST_PARAMETERS = 7, DEEPEST = 8, MOST_CLASSES = 12, MOST_FIELDS = 20;

    public static void main(String[] args) throws IOException {
        Path source = Path.of(args.length > 0 ? args[0] : ".", "src/main/java/TopicSeams.java");
        DUE.holds("signs from 1 to 127", Files.readString(source).chars().allMatch(c -> c >= 1 && c <= 127));
        JavaCompiler compiler = ToolProvider.getSystemJavaCompiler();
        try (StandardJavaFileManager files = compiler.getStandardFileManager(null, null, null)) {
            JavacTask task = (JavacTask) compiler.getTask(null, files, null, List.of("--release", "17", "-proc:none"),
                null, files.getJavaFileObjects(source));
            CompilationUnitTree unit = task.parse().iterator().next();
            task.analyze();
            Walk walk = new Walk(Trees.instance(task), unit);
            walk.scan(unit, null);
            walk.end();
        }
        DUE.end();
    }

    /** Goes through the whole tree, and keeps which method calls which. */
    private static final class Walk extends TreePathScanner<Void, Void> {
        private final Trees trees;
        private final CompilationUnitTree unit;
        private final Map<Element, Set<Element>> calls = new HashMap<>();
        private Element method = null;
        private int classes = 0;

        Walk(Trees trees, CompilationUnitTree unit) {
            this.trees = trees;
            this.unit = unit;
        }

        private Element here() {
            return trees.getElement(getCurrentPath());
        }

        private void holds(String rule, Tree tree, boolean it) {
            long line = unit.getLineMap().getLineNumber(trees.getSourcePositions().getStartPosition(unit, tree));
            DUE.holds(rule + ", line " + line, it);
        }

        @Override
        public Void scan(Tree tree, Void none) {
            if (tree != null) holds("rules 4, 6, 7, 10: no " + tree.getKind(), tree, !RULED_OUT.contains(tree.getKind()));
            return super.scan(tree, none);
        }

        @Override
        public Void visitClass(ClassTree tree, Void none) {
            classes++;
            TreePath around = getCurrentPath().getParentPath();
            boolean inside = around.getLeaf() instanceof ClassTree;
            holds("rule 2: no local or nameless class", tree, inside || around.getLeaf() == unit);
            holds("rule 2: classes inside are static", tree, !inside || has(tree.getModifiers().getFlags(), Modifier.STATIC));
            int fields = 0;
            for (Tree member : tree.getMembers()) {
                holds("rule 5: no initialiser block", member, !(member instanceof BlockTree));
                if (member instanceof VariableTree field && !has(field.getModifiers().getFlags(), Modifier.STATIC)) fields++;
            }
            holds("rule 11: " + fields + " fields", tree, fields <= MOST_FIELDS);
            return super.visitClass(tree, none);
        }

        private static boolean has(Set<Modifier> flags, Modifier one) {
            return flags.contains(one);
        }

        @Override
        public Void visitMethod(MethodTree tree, Void none) {
            long from = trees.getSourcePositions().getStartPosition(unit, tree);
            long to = trees.getSourcePositions().getEndPosition(unit, tree);
            long lines = to < 0 ? 1 : unit.getLineMap().getLineNumber(to) - unit.getLineMap().getLineNumber(from) + 1;
            holds("rule 11: a method of " + lines + " lines", tree, lines <= MOST_LINES);
            holds("rule 11: its parameters", tree, tree.getParameters().size() <= MOST_PARAMETERS);
            Element around = method;
            method = here();
            calls.put(method, new HashSet<>());
            super.visitMethod(tree, none);
            method = around;
            return null;
        }

        @Override
        public Void visitMethodInvocation(MethodInvocationTree tree, Void none) {
            Element called = here();
            if (isOwn(called)) {
                if (method != null) calls.get(method).add(called);
            } else if (called.getKind() != ElementKind.CONSTRUCTOR) {
                String name = called.getEnclosingElement() + "." + called.getSimpleName();
                holds("rule 4: " + name, tree, LIBRARY.contains(name));
            }
            return super.visitMethodInvocation(tree, none);
        }

        @Override
        public Void visitMemberSelect(MemberSelectTree tree, Void none) {
            Element named = here();
            boolean field = named != null && named.getKind() == ElementKind.FIELD;
            holds("rule 4: no field of the library: " + tree, tree, !field || isOwn(named));
            return super.visitMemberSelect(tree, none);
        }

        private static boolean isOwn(Element it) {
            for (Element e = it; e != null; e = e.getEnclosingElement()) {
                if (e.getSimpleName().contentEquals("TopicSeams")) return true;
            }
            return false;
        }

        @Override
        public Void visitVariable(VariableTree tree, Void none) {
            TypeMirror type = here().asType();
            String of = type.toString();
            boolean list = of.equals("int[]") || of.equals("long[]") || of.equals("int[][]");
            holds("rule 3: " + of, tree, NUMBERS.contains(of) || list || of.startsWith("TopicSeams."));
            Set<Modifier> flags = tree.getModifiers().getFlags();
            if (has(flags, Modifier.STATIC)) {
                holds("rule 5: final", tree, has(flags, Modifier.FINAL));
                holds("rule 5: written out", tree, NUMBERS.contains(of) || tree.getInitializer() instanceof NewArrayTree a
                    && a.getInitializers() != null);
            }
            return super.visitVariable(tree, none);
        }

        @Override
        public Void visitNewClass(NewClassTree tree, Void none) {
            holds("rule 12: no method makes an object", tree, method == null && isOwn(here()));
            return super.visitNewClass(tree, none);
        }

        @Override
        public Void visitNewArray(NewArrayTree tree, Void none) {
            holds("rule 12: no method makes an array", tree, method == null);
            return super.visitNewArray(tree, none);
        }

        @Override
        public Void visitTypeCast(TypeCastTree tree, Void none) {
            holds("rule 6: only numbers are cast", tree, Set.of("int", "byte", "short").contains(tree.getType().toString()));
            return super.visitTypeCast(tree, none);
        }

        @Override
        public Void visitBinary(BinaryTree tree, Void none) {
            holds("rule 6: only numbers are held one against another", tree, isNumber(tree.getLeftOperand())
                && isNumber(tree.getRightOperand()));
            return super.visitBinary(tree, none);
        }

        @Override
        public Void visitCompoundAssignment(CompoundAssignmentTree tree, Void none) {
            holds("rule 10: only numbers are added up", tree, isNumber(tree.getVariable()));
            return super.visitCompoundAssignment(tree, none);
        }

        private boolean isNumber(Tree operand) {
            return trees.getTypeMirror(new TreePath(getCurrentPath(), operand)).getKind().isPrimitive();
        }

        private int depthOf(Element of, Set<Element> open) {
            if (!open.add(of)) return DEEPEST + 1;
            int depth = 0;
            for (Element called : calls.getOrDefault(of, Set.of())) depth = Math.max(depth, depthOf(called, open));
            open.remove(of);
            return depth + 1;
        }

        void end() {
            DUE.holds("rule 11: " + classes + " classes", classes <= MOST_CLASSES);
            DUE.holds("rule 11: there are methods", calls.size() > 30);
            for (Element m : calls.keySet()) {
                int depth = depthOf(m, new HashSet<>());
                DUE.holds("rules 8, 11: " + m.getEnclosingElement() + "." + m + " goes " + depth + " deep", depth <= DEEPEST);
            }
        }
    }
}
