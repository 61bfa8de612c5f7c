import com.sun.source.tree.CompilationUnitTree;
import com.sun.source.tree.MethodInvocationTree;
import com.sun.source.tree.MethodTree;
import com.sun.source.tree.NewArrayTree;
import com.sun.source.tree.NewClassTree;
import com.sun.source.util.JavacTask;
import com.sun.source.util.TreePathScanner;
import com.sun.source.util.Trees;
import java.io.IOException;
import java.nio.file.Path;
import java.util.ArrayDeque;
import java.util.Deque;
import java.util.HashMap;
import java.util.HashSet;
import java.util.List;
import java.util.Map;
import java.util.Set;
import java.util.TreeSet;
import javax.lang.model.element.Element;
import javax.lang.model.element.ExecutableElement;
import javax.lang.model.element.VariableElement;
import javax.tools.JavaCompiler;
import javax.tools.StandardJavaFileManager;
import javax.tools.ToolProvider;

/**
 * Rules 8, 11 and 12 of LANGUAGE.md, by the compiler's own reading of the source: which method calls
 * which, how deep, and which of them make something.
 */
public final class CallsTest {
    private static final int DEEPEST = 8;
    private static final int MOST_OPEN_CALLS = 300;
    private static final int LEVELS = 9;
    private static int wrong = 0;

    private final Map<String, Set<String>> calls = new HashMap<>();
    private final Map<String, Set<String>> reached = new HashMap<>();
    private final Map<String, Integer> depths = new HashMap<>();
    private final Set<String> carriers = new HashSet<>();
    private final Set<String> makers = new TreeSet<>();

    private CallsTest() {
    }

    private static void must(String what, boolean is) {
        if (!is) {
            wrong++;
            System.out.println("rule broken: " + what);
        }
    }

    private void read(Path source) throws IOException {
        JavaCompiler compiler = ToolProvider.getSystemJavaCompiler();
        try (StandardJavaFileManager files = compiler.getStandardFileManager(null, null, null)) {
            JavacTask task = (JavacTask) compiler.getTask(null, files, null, null, null,
                    files.getJavaFileObjects(source));
            Iterable<? extends CompilationUnitTree> units = task.parse();
            task.analyze();
            Scanner scanner = new Scanner(Trees.instance(task));
            for (CompilationUnitTree unit : units) {
                scanner.scan(unit, null);
            }
        }
        for (String method : calls.keySet()) {
            reached.put(method, reachedFrom(method));
        }
    }

    /** What stands outside of methods (rows that a field starts with) counts for the constructor. */
    private final class Scanner extends TreePathScanner<Void, Void> {
        private final Trees trees;
        private final Deque<String> inside = new ArrayDeque<>();

        Scanner(Trees trees) {
            this.trees = trees;
        }

        @Override
        public Void visitMethod(MethodTree method, Void nothing) {
            ExecutableElement element = (ExecutableElement) trees.getElement(getCurrentPath());
            String name = nameOf(element);
            calls.putIfAbsent(name, new TreeSet<>());
            for (VariableElement p : element.getParameters()) {
                if (p.getSimpleName().contentEquals("open")) {
                    carriers.add(name);
                }
            }
            inside.push(name);
            super.visitMethod(method, nothing);
            inside.pop();
            return null;
        }

        @Override
        public Void visitMethodInvocation(MethodInvocationTree call, Void nothing) {
            called();
            return super.visitMethodInvocation(call, nothing);
        }

        @Override
        public Void visitNewClass(NewClassTree made, Void nothing) {
            called();
            makes();
            return super.visitNewClass(made, nothing);
        }

        @Override
        public Void visitNewArray(NewArrayTree made, Void nothing) {
            makes();
            return super.visitNewArray(made, nothing);
        }

        private void called() {
            Element element = trees.getElement(getCurrentPath());
            if (!inside.isEmpty() && element instanceof ExecutableElement) {
                calls.get(inside.peek()).add(nameOf((ExecutableElement) element));
            }
        }

        private void makes() {
            if (!inside.isEmpty() && !inside.peek().endsWith("<init>")) {
                makers.add(inside.peek());
            }
        }

        private String nameOf(ExecutableElement element) {
            return element.getEnclosingElement().getSimpleName() + "." + element.getSimpleName();
        }
    }

    private Set<String> reachedFrom(String method) {
        Set<String> seen = new HashSet<>();
        Deque<String> waiting = new ArrayDeque<>(List.of(method));
        while (!waiting.isEmpty()) {
            for (String next : calls.getOrDefault(waiting.pop(), Set.of())) {
                if (calls.containsKey(next) && seen.add(next)) {
                    waiting.push(next);
                }
            }
        }
        return seen;
    }

    private boolean recurs(String method) {
        return reached.get(method).contains(method);
    }

    /** Calls that lead back to the caller are recursion, and are not counted here. */
    private int depthOf(String method) {
        Integer known = depths.get(method);
        if (known != null) {
            return known;
        }
        int deepest = 0;
        for (String next : calls.get(method)) {
            if (calls.containsKey(next) && !reached.get(next).contains(method)) {
                deepest = Math.max(deepest, depthOf(next));
            }
        }
        depths.put(method, deepest + 1);
        return deepest + 1;
    }

    private void check() {
        must("the whole class is read: " + calls.size(), calls.size() > 100);
        int ring = 0;
        for (String method : calls.keySet()) {
            if (recurs(method)) {
                ring++;
                must("8, " + method + " carries how deep it is", carriers.contains(method));
            } else if (method.startsWith("TollsForLate.")) {
                must("11, " + method + " goes " + depthOf(method) + " deep",
                        depthOf(method) <= DEEPEST);
            }
        }
        must("8, open calls", (ring + DEEPEST) * LEVELS < MOST_OPEN_CALLS);
        must("12, methods that make something: " + makers, makers.equals(Set.of("Beliefs.weigh")));
    }

    public static void main(String[] args) throws IOException {
        CallsTest test = new CallsTest();
        test.read(Path.of("src/main/java/TollsForLate.java"));
        test.check();
        System.out.println(wrong == 0 ? "calls are as the rules want them" : wrong + " rules are broken");
        if (wrong != 0) {
            System.exit(1);
        }
    }
}
