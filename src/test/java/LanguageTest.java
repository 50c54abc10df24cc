import com.sun.source.tree.ClassTree;
import com.sun.source.tree.CompilationUnitTree;
import com.sun.source.tree.LineMap;
import com.sun.source.tree.MethodInvocationTree;
import com.sun.source.tree.MethodTree;
import com.sun.source.tree.NewArrayTree;
import com.sun.source.tree.NewClassTree;
import com.sun.source.tree.Tree;
import com.sun.source.tree.VariableTree;
import com.sun.source.util.JavacTask;
import com.sun.source.util.SourcePositions;
import com.sun.source.util.TreePathScanner;
import com.sun.source.util.Trees;
import java.nio.file.Path;
import java.util.ArrayList;
import java.util.HashMap;
import java.util.LinkedHashSet;
import java.util.List;
import java.util.Map;
import java.util.Set;
import javax.lang.model.element.Element;
import javax.lang.model.element.ExecutableElement;
import javax.lang.model.element.Modifier;
import javax.tools.JavaCompiler;
import javax.tools.StandardJavaFileManager;
import javax.tools.ToolProvider;

/** The rules of LANGUAGE.md that are counted: the compiler's own tree of the class is gone through. */
public final class LanguageTest {
    private static final Path SOURCE = Path.of("src/main/java/PointMaker.java");
    private static final int MOST_DEEP = 8, MOST_PARAMETERS = 7, MOST_LINES = 60, MOST_CLASSES = 12, MOST_FIELDS = 20;
    private static final Set<String> LIBRARY = Set.of("java.lang.String.length", "java.lang.String.charAt",
        "java.lang.Math.min", "java.lang.Math.max", "java.lang.System.arraycopy", "java.lang.Object.<init>");
    /** No tree of these kinds stands in the class (2, 6). */
    private static final Set<Tree.Kind> NEVER = Set.of(Tree.Kind.LAMBDA_EXPRESSION, Tree.Kind.MEMBER_REFERENCE,
        Tree.Kind.THROW, Tree.Kind.TRY, Tree.Kind.SYNCHRONIZED, Tree.Kind.ASSERT, Tree.Kind.IMPORT, Tree.Kind.PACKAGE,
        Tree.Kind.DOUBLE_LITERAL, Tree.Kind.FLOAT_LITERAL);

    private static final Map<String, Set<String>> CALLS = new HashMap<>();
    private static final Map<String, List<String>> DEEPEST = new HashMap<>();
    private static final Set<String> LIBRARY_CALLS = new LinkedHashSet<>();
    private static final Set<String> MAKERS = new LinkedHashSet<>();

    public static void main(String[] args) throws Exception {
        JavaCompiler compiler = ToolProvider.getSystemJavaCompiler();
        if (compiler == null) {
            System.out.println("no compiler inside this java, so nothing to count");
            return;
        }
        try (StandardJavaFileManager files = compiler.getStandardFileManager(null, null, null)) {
            JavacTask task = (JavacTask) compiler.getTask(null, files, null, List.of("--release", "17", "-proc:none"),
                null, files.getJavaFileObjects(SOURCE));
            Iterable<? extends CompilationUnitTree> units = task.parse();
            task.analyze();
            for (CompilationUnitTree unit : units) {
                new Counter(Trees.instance(task), unit).scan(unit, null);
            }
        }
        Check.due("methods were found", CALLS.size() > 28 ? 1 : 0, 1);
        for (String method : CALLS.keySet()) {
            List<String> way = deepest(method, new ArrayList<>());
            Check.due("calls that stand open: " + way, Math.max(way.size(), MOST_DEEP), MOST_DEEP);
        }
        for (String call : LIBRARY_CALLS) {
            Check.due(call + " is of the library", LIBRARY.contains(call) ? 1 : 0, 1);
        }
        for (String maker : MAKERS) {
            Check.due(maker + " makes an object and is no constructor", maker.endsWith(".<init>") ? 0 : 1, 0);
        }
        Check.finish();
    }

    /** The longest way of calls that begins with a method, itself the first; a way round is told as wrong. */
    private static List<String> deepest(String method, List<String> open) {
        if (open.contains(method)) {
            Check.due("a method that calls itself: " + open + " " + method, 1, 0);
            return List.of();
        }
        List<String> known = DEEPEST.get(method);
        if (known != null) {
            return known;
        }
        open.add(method);
        List<String> longest = List.of();
        for (String called : CALLS.getOrDefault(method, Set.of())) {
            List<String> way = deepest(called, open);
            longest = way.size() > longest.size() ? way : longest;
        }
        open.remove(open.size() - 1);
        List<String> whole = new ArrayList<>(longest);
        whole.add(0, method);
        DEEPEST.put(method, whole);
        return whole;
    }

    private static final class Counter extends TreePathScanner<Void, Void> {
        private final Trees trees;
        private final CompilationUnitTree unit;
        private int classes;
        private String inside = "";

        Counter(Trees trees, CompilationUnitTree unit) {
            this.trees = trees;
            this.unit = unit;
        }

        @Override
        public Void scan(Tree tree, Void none) {
            if (tree != null && NEVER.contains(tree.getKind())) {
                Check.due(tree + " stands in the class", 1, 0);
            }
            return super.scan(tree, none);
        }

        @Override
        public Void visitClass(ClassTree tree, Void none) {
            classes++;
            Check.due("class " + classes + ", " + tree.getSimpleName(), Math.max(classes, MOST_CLASSES), MOST_CLASSES);
            int fields = 0;
            for (Tree member : tree.getMembers()) {
                if (member instanceof VariableTree field) {
                    Set<Modifier> flags = field.getModifiers().getFlags();
                    boolean isStatic = flags.contains(Modifier.STATIC);
                    Check.due(field.getName() + " is final", !isStatic || flags.contains(Modifier.FINAL) ? 1 : 0, 1);
                    fields += isStatic ? 0 : 1;
                }
            }
            Check.due("fields of " + tree.getSimpleName(), Math.max(fields, MOST_FIELDS), MOST_FIELDS);
            return super.visitClass(tree, none);
        }

        @Override
        public Void visitMethod(MethodTree tree, Void none) {
            String outside = inside;
            inside = nameOf(trees.getElement(getCurrentPath()));
            // Calls are told apart by their names alone here.
            Check.due("methods named " + inside + " ahead", CALLS.containsKey(inside) ? 1 : 0, 0);
            CALLS.put(inside, new LinkedHashSet<>());
            int parameters = tree.getParameters().size();
            Check.due("parameters of " + inside, Math.max(parameters, MOST_PARAMETERS), MOST_PARAMETERS);
            Check.due("lines of " + inside, Math.max(linesOf(tree), MOST_LINES), MOST_LINES);
            super.visitMethod(tree, none);
            inside = outside;
            return null;
        }

        @Override
        public Void visitMethodInvocation(MethodInvocationTree tree, Void none) {
            call();
            return super.visitMethodInvocation(tree, none);
        }

        @Override
        public Void visitNewClass(NewClassTree tree, Void none) {
            call();
            makes();
            return super.visitNewClass(tree, none);
        }

        @Override
        public Void visitNewArray(NewArrayTree tree, Void none) {
            makes();
            return super.visitNewArray(tree, none);
        }

        /** A field's own initialiser stands in no method, and is a part of making the object. */
        private void makes() {
            if (!inside.isEmpty()) {
                MAKERS.add(inside);
            }
        }

        private void call() {
            Element called = trees.getElement(getCurrentPath());
            if (called instanceof ExecutableElement) {
                if (!nameOf(called).startsWith("PointMaker.")) {
                    LIBRARY_CALLS.add(nameOf(called));
                }
                if (!inside.isEmpty()) {
                    CALLS.get(inside).add(nameOf(called));
                }
            }
        }

        private int linesOf(Tree tree) {
            SourcePositions places = trees.getSourcePositions();
            LineMap lines = unit.getLineMap();
            long first = lines.getLineNumber(places.getStartPosition(unit, tree));
            return (int) (lines.getLineNumber(places.getEndPosition(unit, tree)) - first + 1);
        }

        private static String nameOf(Element method) {
            return method.getEnclosingElement() + "." + method.getSimpleName();
        }
    }
}
