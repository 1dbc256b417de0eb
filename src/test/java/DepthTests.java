import com.sun.source.tree.ClassTree;
import com.sun.source.tree.MethodInvocationTree;
import com.sun.source.tree.MethodTree;
import com.sun.source.tree.NewClassTree;
import com.sun.source.util.JavacTask;
import com.sun.source.util.TreePathScanner;
import com.sun.source.util.Trees;
import java.io.IOException;
import java.nio.file.Path;
import java.util.ArrayList;
import java.util.HashMap;
import java.util.HashSet;
import java.util.LinkedHashSet;
import java.util.List;
import java.util.Map;
import java.util.Set;
import javax.lang.model.element.Element;
import javax.lang.model.element.Modifier;
import javax.tools.JavaCompiler;
import javax.tools.StandardJavaFileManager;
import javax.tools.ToolProvider;

/** LANGUAGE.md, rules 8 and 11: calls that are no recursion go eight deep at most. */
public final class DepthTests {
    private static final int MOST_DEEP = 8;
    private static final Map<Element, Set<Element>> CALLS = new HashMap<>();
    private static final Map<Element, Set<Element>> REACHED = new HashMap<>();
    private static final Map<Element, Integer> DEEP = new HashMap<>();

    private DepthTests() {
    }

    public static void main(String[] args) throws IOException {
        readCalls(Path.of(System.getProperty("even.oars.source", "src/main/java/EvenOars.java")));
        for (Element method : CALLS.keySet()) {
            REACHED.put(method, reachedFrom(method));
        }
        int faces = 0;
        for (Element method : CALLS.keySet()) {
            if (method.getModifiers().contains(Modifier.PUBLIC)) {
                faces++;
                Check.that(method + " goes " + deep(method) + " deep", deep(method) <= MOST_DEEP);
            }
        }
        Check.same("public methods and the constructor", faces, 41);
        Check.done("DepthTests");
    }

    /** Which methods of the source each of them calls. */
    private static void readCalls(Path source) throws IOException {
        JavaCompiler compiler = ToolProvider.getSystemJavaCompiler();
        StandardJavaFileManager files = compiler.getStandardFileManager(null, null, null);
        JavacTask task = (JavacTask) compiler.getTask(null, files, null, null, null, files.getJavaFileObjects(source));
        Trees trees = Trees.instance(task);
        var units = task.parse();
        task.analyze();
        List<Element> own = new ArrayList<>();
        TreePathScanner<Void, Element> scanner = new TreePathScanner<>() {
            @Override
            public Void visitClass(ClassTree tree, Element in) {
                return super.visitClass(tree, null);
            }

            @Override
            public Void visitMethod(MethodTree tree, Element in) {
                Element method = trees.getElement(getCurrentPath());
                own.add(method);
                CALLS.put(method, new LinkedHashSet<>());
                return super.visitMethod(tree, method);
            }

            @Override
            public Void visitMethodInvocation(MethodInvocationTree tree, Element in) {
                note(in);
                return super.visitMethodInvocation(tree, in);
            }

            @Override
            public Void visitNewClass(NewClassTree tree, Element in) {
                note(in);
                return super.visitNewClass(tree, in);
            }

            private void note(Element in) {
                if (in != null) {
                    CALLS.get(in).add(trees.getElement(getCurrentPath()));
                }
            }
        };
        scanner.scan(units, null);
        for (Set<Element> called : CALLS.values()) {
            called.retainAll(own);
        }
    }

    private static Set<Element> reachedFrom(Element method) {
        Set<Element> reached = new HashSet<>();
        List<Element> waiting = new ArrayList<>(CALLS.get(method));
        while (!waiting.isEmpty()) {
            Element next = waiting.remove(waiting.size() - 1);
            if (reached.add(next)) {
                waiting.addAll(CALLS.get(next));
            }
        }
        return reached;
    }

    /** Methods that call one another count once together: the document's limits keep these low. */
    private static int deep(Element method) {
        Integer known = DEEP.get(method);
        if (known != null) {
            return known;
        }
        int below = 0;
        for (Element called : REACHED.get(method)) {
            boolean recursion = REACHED.get(called).contains(method);
            if (!recursion) {
                below = Math.max(below, deep(called));
            }
        }
        DEEP.put(method, below + 1);
        return below + 1;
    }
}
