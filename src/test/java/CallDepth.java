import com.sun.source.tree.CompilationUnitTree;
import com.sun.source.tree.MethodInvocationTree;
import com.sun.source.tree.MethodTree;
import com.sun.source.tree.NewClassTree;
import com.sun.source.util.JavacTask;
import com.sun.source.util.TreePathScanner;
import com.sun.source.util.Trees;
import java.io.IOException;
import java.nio.file.Path;
import java.util.HashMap;
import java.util.HashSet;
import java.util.List;
import java.util.Map;
import java.util.Set;
import java.util.TreeSet;
import javax.lang.model.element.Element;
import javax.tools.JavaCompiler;
import javax.tools.StandardJavaFileManager;
import javax.tools.ToolProvider;

/** How deep calls go, the library's own among them: by the source, so that no way is left out because no run went it. */
final class CallDepth {
    /** By method: all that it calls, constructors too. */
    private final Map<Element, Set<Element>> calls = new HashMap<>();

    CallDepth(Path source) throws IOException {
        JavaCompiler compiler = ToolProvider.getSystemJavaCompiler();
        try (StandardJavaFileManager files = compiler.getStandardFileManager(null, null, null)) {
            JavacTask task = (JavacTask) compiler.getTask(null, files, null, List.of("-proc:none"), null,
                    files.getJavaFileObjects(source));
            Iterable<? extends CompilationUnitTree> units = task.parse();
            task.analyze();
            Trees trees = Trees.instance(task);
            for (CompilationUnitTree unit : units) {
                new Reading(trees).scan(unit, null);
            }
        }
    }

    private final class Reading extends TreePathScanner<Void, Void> {
        private final Trees trees;
        private Element within;

        Reading(Trees trees) {
            this.trees = trees;
        }

        @Override
        public Void visitMethod(MethodTree method, Void none) {
            within = trees.getElement(getCurrentPath());
            calls.putIfAbsent(within, new HashSet<>());
            super.visitMethod(method, none);
            within = null;
            return null;
        }

        @Override
        public Void visitMethodInvocation(MethodInvocationTree call, Void none) {
            add();
            return super.visitMethodInvocation(call, none);
        }

        @Override
        public Void visitNewClass(NewClassTree call, Void none) {
            add();
            return super.visitNewClass(call, none);
        }

        private void add() {
            Element called = trees.getElement(getCurrentPath());
            if (within != null && called != null) {
                calls.get(within).add(called);
            }
        }
    }

    int methods() {
        return calls.size();
    }

    /** The longest chain of calls of which none is called again; what calls itself counts once. */
    int deepest() {
        int deepest = 0;
        for (Element method : calls.keySet()) {
            deepest = Math.max(deepest, from(method, new HashSet<>()));
        }
        return deepest;
    }

    private int from(Element method, Set<Element> open) {
        int below = 0;
        open.add(method);
        for (Element called : calls.getOrDefault(method, Set.of())) {
            if (!open.contains(called)) {
                below = Math.max(below, from(called, open));
            }
        }
        open.remove(method);
        return 1 + below;
    }

    /** All that call themselves, be it through others. */
    Set<String> recursive() {
        Set<String> found = new TreeSet<>();
        for (Element method : calls.keySet()) {
            Set<Element> reached = new HashSet<>();
            for (Element called : calls.get(method)) {
                reach(called, reached);
            }
            if (reached.contains(method)) {
                found.add(method.getSimpleName().toString());
            }
        }
        return found;
    }

    private void reach(Element method, Set<Element> reached) {
        if (reached.add(method)) {
            for (Element called : calls.getOrDefault(method, Set.of())) {
                reach(called, reached);
            }
        }
    }
}
