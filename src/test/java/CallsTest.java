import com.sun.source.tree.BinaryTree;
import com.sun.source.tree.ClassTree;
import com.sun.source.tree.CompilationUnitTree;
import com.sun.source.tree.MethodInvocationTree;
import com.sun.source.tree.MethodTree;
import com.sun.source.tree.NewClassTree;
import com.sun.source.tree.Tree;
import com.sun.source.util.JavacTask;
import com.sun.source.util.SourcePositions;
import com.sun.source.util.TreePath;
import com.sun.source.util.TreePathScanner;
import com.sun.source.util.Trees;
import java.nio.file.Files;
import java.nio.file.Path;
import java.util.ArrayDeque;
import java.util.Deque;
import java.util.List;
import java.util.Map;
import java.util.Set;
import java.util.TreeMap;
import java.util.TreeSet;
import javax.lang.model.element.Element;
import javax.lang.model.element.ElementKind;
import javax.tools.JavaCompiler;
import javax.tools.StandardJavaFileManager;
import javax.tools.ToolProvider;

/**
 * The rules of ../shared/LANGUAGE.md that ask how the methods call one another and what they take from
 * the library, looked at in the tree that the compiler makes of the class.
 */
public final class CallsTest {
    private static final Checks checks = new Checks();
    private static final Path SOURCE = Path.of("src/main/java/BurningFields.java");
    private static final int DEEPEST = 8;
    private static final int LONGEST = 60;
    private static final Set<String> LIBRARY = Set.of("java.lang.Integer.bitCount(int)", "java.lang.Math.max(int,int)",
            "java.lang.Math.min(int,int)", "java.lang.String.length()", "java.lang.String.charAt(int)",
            "java.lang.Object.Object()");

    private final Map<String, Set<String>> calls = new TreeMap<>();
    private final Map<String, Integer> depths = new TreeMap<>();
    private final Deque<String> open = new ArrayDeque<>();

    /** Each method with those that it calls; what is outside of the rules on the way is told. */
    private final class Reader extends TreePathScanner<Void, Void> {
        private final Trees trees;
        private final CompilationUnitTree unit;
        private String now = "a field";

        Reader(Trees trees, CompilationUnitTree unit) {
            this.trees = trees;
            this.unit = unit;
        }

        @Override
        public Void visitClass(ClassTree node, Void none) {
            String before = now;
            now = "a field of " + node.getSimpleName();
            calls.putIfAbsent(now, new TreeSet<>());
            super.visitClass(node, none);
            now = before;
            return null;
        }

        @Override
        public Void visitMethod(MethodTree node, Void none) {
            String before = now;
            now = nameOf(getCurrentPath());
            calls.putIfAbsent(now, new TreeSet<>());
            SourcePositions places = trees.getSourcePositions();
            long first = unit.getLineMap().getLineNumber(places.getStartPosition(unit, node));
            long last = unit.getLineMap().getLineNumber(places.getEndPosition(unit, node));
            checks.holds(now + " stays short", last - first < LONGEST);
            checks.holds(now + " takes at most seven", node.getParameters().size() <= 7);
            super.visitMethod(node, none);
            now = before;
            return null;
        }

        @Override
        public Void visitMethodInvocation(MethodInvocationTree node, Void none) {
            add(getCurrentPath());
            return super.visitMethodInvocation(node, none);
        }

        @Override
        public Void visitNewClass(NewClassTree node, Void none) {
            add(getCurrentPath());
            return super.visitNewClass(node, none);
        }

        @Override
        public Void visitBinary(BinaryTree node, Void none) {
            boolean isText = trees.getTypeMirror(getCurrentPath()).toString().equals("java.lang.String");
            checks.holds(now + " joins no texts by +: " + node, node.getKind() != Tree.Kind.PLUS || !isText);
            return super.visitBinary(node, none);
        }

        private void add(TreePath path) {
            Element element = trees.getElement(path);
            String owner = element.getEnclosingElement().toString();
            if (owner.equals("BurningFields") || owner.startsWith("BurningFields.")) {
                calls.computeIfAbsent(now, key -> new TreeSet<>()).add(nameOf(path));
            } else {
                String told = owner + "." + (element.getKind() == ElementKind.CONSTRUCTOR
                        ? element.toString().replaceFirst("^.*\\.", "") : element.toString());
                checks.holds(now + " calls " + told, LIBRARY.contains(told));
            }
        }

        private String nameOf(TreePath path) {
            Element element = trees.getElement(path);
            return element.getEnclosingElement() + "." + element;
        }
    }

    /** How many calls stand open at once below and with this one; a call of an open method is told. */
    private int depthOf(String method) {
        if (open.contains(method)) {
            checks.holds(method + " calls itself by way of " + open, false);
            return 0;
        }
        Integer known = depths.get(method);
        if (known != null) {
            return known;
        }
        int most = 0;
        open.push(method);
        for (String called : calls.getOrDefault(method, Set.of())) {
            most = Math.max(most, depthOf(called));
        }
        open.pop();
        depths.put(method, most + 1);
        return most + 1;
    }

    private void look() throws java.io.IOException {
        checks.holds("the source is there", Files.exists(SOURCE));
        JavaCompiler compiler = ToolProvider.getSystemJavaCompiler();
        try (StandardJavaFileManager files = compiler.getStandardFileManager(null, null, null)) {
            JavacTask task = (JavacTask) compiler.getTask(null, files, null, List.of("-proc:none"), null,
                    files.getJavaFileObjects(SOURCE));
            Iterable<? extends CompilationUnitTree> units = task.parse();
            task.analyze();
            for (CompilationUnitTree unit : units) {
                new Reader(Trees.instance(task), unit).scan(unit, null);
            }
        }
        checks.holds("the methods are found", calls.containsKey("BurningFields.outcome()"));
        checks.holds("the calls are found", depthOf("BurningFields.outcome()") > 3);
        for (String method : calls.keySet()) {
            checks.holds(method + " goes " + depthOf(method) + " deep", depthOf(method) <= DEEPEST);
        }
    }

    public static void main(String[] args) throws java.io.IOException {
        new CallsTest().look();
        checks.end();
    }
}
