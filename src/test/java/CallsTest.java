import com.sun.source.tree.MethodInvocationTree;
import com.sun.source.tree.MethodTree;
import com.sun.source.tree.NewClassTree;
import com.sun.source.tree.Tree;
import com.sun.source.util.JavacTask;
import com.sun.source.util.TreePathScanner;
import com.sun.source.util.Trees;
import java.io.IOException;
import java.nio.file.Path;
import java.util.List;
import java.util.Map;
import java.util.Set;
import java.util.TreeMap;
import java.util.TreeSet;
import javax.lang.model.element.Element;
import javax.lang.model.element.ExecutableElement;
import javax.lang.model.element.Modifier;
import javax.tools.JavaCompiler;
import javax.tools.StandardJavaFileManager;
import javax.tools.ToolProvider;

/** Those rules of LANGUAGE.md that need to know which method calls which: 1, 4, 8 and 11. */
public final class CallsTest {
    private static final Checks CHECKS = new Checks("CallsTest");
    private static final Path SOURCE = Path.of("src/main/java/HeelHounds.java");
    private static final int DEEPEST = 8;
    private static final Set<String> LIBRARY = Set.of(
        "java.lang.Math.min(int,int)", "java.lang.Math.max(int,int)", "java.lang.Math.abs(int)",
        "java.lang.Integer.bitCount(int)", "java.util.Arrays.fill(int[],int)",
        "java.lang.System.arraycopy(java.lang.Object,int,java.lang.Object,int,int)", "java.lang.Object.Object()");

    private final Map<String, Set<String>> calls = new TreeMap<>();
    private final Map<String, ExecutableElement> methods = new TreeMap<>();

    public static void main(String[] args) throws IOException {
        CallsTest test = new CallsTest();
        test.read();
        test.membersInsideArePrivate();
        test.libraryIsTheListedOne();
        test.recursionCarriesItsDepth();
        test.chainsAreShort();
        CHECKS.end();
    }

    private void read() throws IOException {
        JavaCompiler compiler = ToolProvider.getSystemJavaCompiler();
        try (StandardJavaFileManager files = compiler.getStandardFileManager(null, null, null)) {
            JavacTask task = (JavacTask) compiler.getTask(null, files, null, List.of("-proc:none"), null,
                files.getJavaFileObjects(SOURCE));
            Trees trees = Trees.instance(task);
            var units = task.parse();
            task.analyze();
            new Reader(trees).scan(units, "");
        }
        CHECKS.due("methods were found", methods.size() > 100, true);
    }

    private static String nameOf(ExecutableElement method) {
        return method.getEnclosingElement() + "." + method;
    }

    private void membersInsideArePrivate() {
        methods.forEach((name, method) -> {
            boolean isOfTheFace = method.getEnclosingElement().toString().equals("HeelHounds")
                && method.getModifiers().contains(Modifier.PUBLIC);
            CHECKS.due(name + " is private or of the face",
                isOfTheFace || method.getModifiers().contains(Modifier.PRIVATE), true);
        });
    }

    private void libraryIsTheListedOne() {
        Set<String> others = new TreeSet<>();
        calls.values().forEach(others::addAll);
        others.removeAll(methods.keySet());
        others.removeAll(LIBRARY);
        CHECKS.due("calls of what is not listed " + others, others.size(), 0);
    }

    /** Each method that can come to itself again is told how deep it is. */
    private void recursionCarriesItsDepth() {
        int recursive = 0;
        for (String name : methods.keySet()) {
            if (reached(name).contains(name)) {
                recursive++;
                boolean isTold = methods.get(name).getParameters().stream()
                    .anyMatch(parameter -> parameter.getSimpleName().contentEquals("open"));
                CHECKS.due(name + " is told how deep it is", isTold, true);
            }
        }
        CHECKS.due("recursion was looked at", recursive > 0, true);
    }

    private void chainsAreShort() {
        Map<String, Integer> depths = new TreeMap<>();
        for (String name : methods.keySet()) {
            int depth = depthOf(name, depths);
            CHECKS.due(name + " goes " + depth + " deep", depth <= DEEPEST, true);
        }
    }

    /** The most methods open at once, itself one of them; those that call one another in a ring are one. */
    private int depthOf(String name, Map<String, Integer> depths) {
        Integer known = depths.get(name);
        if (known != null) {
            return known;
        }
        Set<String> ring = ringOf(name);
        int deepest = 0;
        for (String member : ring) {
            for (String called : calls.get(member)) {
                if (methods.containsKey(called) && !ring.contains(called)) {
                    deepest = Math.max(deepest, depthOf(called, depths));
                }
            }
        }
        depths.put(name, deepest + 1);
        return deepest + 1;
    }

    private Set<String> ringOf(String name) {
        Set<String> ring = new TreeSet<>();
        ring.add(name);
        for (String other : reached(name)) {
            if (reached(other).contains(name)) {
                ring.add(other);
            }
        }
        return ring;
    }

    private Set<String> reached(String name) {
        Set<String> found = new TreeSet<>();
        reach(name, found);
        return found;
    }

    private void reach(String name, Set<String> found) {
        for (String called : calls.get(name)) {
            if (methods.containsKey(called) && found.add(called)) {
                reach(called, found);
            }
        }
    }

    /** Notes each method of the class and what it calls. */
    private final class Reader extends TreePathScanner<Void, String> {
        private final Trees trees;

        Reader(Trees trees) {
            this.trees = trees;
        }

        @Override
        public Void visitMethod(MethodTree tree, String caller) {
            ExecutableElement method = (ExecutableElement) trees.getElement(getCurrentPath());
            String name = nameOf(method);
            calls.put(name, new TreeSet<>());
            methods.put(name, method);
            return super.visitMethod(tree, name);
        }

        @Override
        public Void visitMethodInvocation(MethodInvocationTree tree, String caller) {
            note(tree, caller);
            return super.visitMethodInvocation(tree, caller);
        }

        @Override
        public Void visitNewClass(NewClassTree tree, String caller) {
            note(tree, caller);
            return super.visitNewClass(tree, caller);
        }

        private void note(Tree tree, String caller) {
            Element called = trees.getElement(getCurrentPath());
            if (calls.containsKey(caller) && called instanceof ExecutableElement) {
                calls.get(caller).add(nameOf((ExecutableElement) called));
            }
        }
    }
}
