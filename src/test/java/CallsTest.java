import com.sun.source.tree.CompilationUnitTree;
import com.sun.source.tree.MethodInvocationTree;
import com.sun.source.tree.MethodTree;
import com.sun.source.tree.NewArrayTree;
import com.sun.source.tree.NewClassTree;
import com.sun.source.tree.Tree;
import com.sun.source.util.JavacTask;
import com.sun.source.util.TreePath;
import com.sun.source.util.TreePathScanner;
import com.sun.source.util.Trees;
import java.io.IOException;
import java.nio.file.Path;
import java.util.ArrayList;
import java.util.HashMap;
import java.util.HashSet;
import java.util.LinkedHashMap;
import java.util.List;
import java.util.Map;
import java.util.Set;
import javax.lang.model.element.Element;
import javax.lang.model.element.ExecutableElement;
import javax.lang.model.element.Modifier;
import javax.tools.JavaCompiler;
import javax.tools.StandardJavaFileManager;
import javax.tools.ToolProvider;

/** The rules of LANGUAGE.md on what calls what (8, 11) and on where objects are made (12), from the program's tree. */
public final class CallsTest {
    private static final int DEEPEST = 8;

    /** What each method calls of the program's own methods, and of Math and String too. */
    private final Map<ExecutableElement, Set<ExecutableElement>> calls = new LinkedHashMap<>();
    private final Set<ExecutableElement> own = new HashSet<>();
    private final Set<ExecutableElement> making = new HashSet<>();
    private final Map<ExecutableElement, Integer> depths = new HashMap<>();

    public static void main(String[] args) throws IOException {
        Check check = new Check("CallsTest");
        CallsTest program = new CallsTest();
        program.read(Path.of("src/main/java/QuillBoats.java"));
        check.isTrue("the program was read", program.own.size() > 100);
        for (ExecutableElement method : program.own) {
            program.look(check, method);
        }
        check.end();
    }

    private void look(Check check, ExecutableElement method) {
        String name = method.getEnclosingElement().getSimpleName() + "." + method;
        check.isTrue(name + " makes nothing", !making.contains(method) || isConstructor(method));
        if (calls(method, method)) {
            boolean carriesDepth = method.getParameters().stream().anyMatch(p -> p.getSimpleName().contentEquals("depth"));
            check.isTrue(name + " calls itself, and carries its depth", carriesDepth);
            check.isTrue(name + " calls itself, and is private", method.getModifiers().contains(Modifier.PRIVATE));
        }
        if (method.getModifiers().contains(Modifier.PUBLIC)) {
            check.isTrue(name + " goes " + depth(method) + " deep", depth(method) <= DEEPEST);
        }
    }

    private static boolean isConstructor(ExecutableElement method) {
        return method.getSimpleName().contentEquals("<init>");
    }

    private void read(Path file) throws IOException {
        JavaCompiler compiler = ToolProvider.getSystemJavaCompiler();
        StandardJavaFileManager files = compiler.getStandardFileManager(null, null, null);
        JavacTask task = (JavacTask) compiler.getTask(null, files, null, null, null, files.getJavaFileObjects(file));
        List<CompilationUnitTree> units = new ArrayList<>();
        task.parse().forEach(units::add);
        task.analyze();
        for (CompilationUnitTree unit : units) {
            new Reader(Trees.instance(task)).scan(unit, null);
        }
        calls.values().forEach(called -> called.removeIf(method -> isConstructor(method)));
    }

    /** How many calls are open at once at most; methods that call one another count as one. */
    private int depth(ExecutableElement method) {
        Integer known = depths.get(method);
        if (known != null) {
            return known;
        }
        int deepest = 0;
        for (ExecutableElement member : circle(method)) {
            for (ExecutableElement called : calls.getOrDefault(member, Set.of())) {
                deepest = Math.max(deepest, circle(method).contains(called) ? 0 : depth(called));
            }
        }
        depths.put(method, deepest + 1);
        return deepest + 1;
    }

    /** The method, and those that it calls and that call it. */
    private Set<ExecutableElement> circle(ExecutableElement method) {
        Set<ExecutableElement> circle = new HashSet<>(Set.of(method));
        for (ExecutableElement other : reached(method)) {
            if (calls(other, method)) {
                circle.add(other);
            }
        }
        return circle;
    }

    private boolean calls(ExecutableElement from, ExecutableElement to) {
        return reached(from).contains(to);
    }

    private Set<ExecutableElement> reached(ExecutableElement from) {
        Set<ExecutableElement> reached = new HashSet<>();
        List<ExecutableElement> open = new ArrayList<>(calls.getOrDefault(from, Set.of()));
        while (!open.isEmpty()) {
            ExecutableElement next = open.remove(open.size() - 1);
            if (reached.add(next)) {
                open.addAll(calls.getOrDefault(next, Set.of()));
            }
        }
        return reached;
    }

    private final class Reader extends TreePathScanner<Void, Void> {
        private final Trees trees;
        private ExecutableElement current = null;

        Reader(Trees trees) {
            this.trees = trees;
        }

        @Override
        public Void visitMethod(MethodTree method, Void none) {
            ExecutableElement outer = current;
            current = (ExecutableElement) trees.getElement(getCurrentPath());
            own.add(current);
            calls.putIfAbsent(current, new HashSet<>());
            super.visitMethod(method, none);
            current = outer;
            return null;
        }

        @Override
        public Void visitMethodInvocation(MethodInvocationTree call, Void none) {
            Element called = trees.getElement(new TreePath(getCurrentPath(), call.getMethodSelect()));
            if (current != null && called instanceof ExecutableElement) {
                calls.get(current).add((ExecutableElement) called);
            }
            return super.visitMethodInvocation(call, none);
        }

        @Override
        public Void visitNewClass(NewClassTree made, Void none) {
            boolean thrown = getCurrentPath().getParentPath().getLeaf().getKind() == Tree.Kind.THROW;
            if (current != null && !thrown) {
                making.add(current);
            }
            return super.visitNewClass(made, none);
        }

        @Override
        public Void visitNewArray(NewArrayTree made, Void none) {
            if (current != null) {
                making.add(current);
            }
            return super.visitNewArray(made, none);
        }
    }
}
