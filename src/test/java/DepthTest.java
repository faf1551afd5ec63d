import com.sun.source.tree.ClassTree;
import com.sun.source.tree.CompilationUnitTree;
import com.sun.source.tree.LineMap;
import com.sun.source.tree.MethodInvocationTree;
import com.sun.source.tree.MethodTree;
import com.sun.source.tree.NewClassTree;
import com.sun.source.tree.Tree;
import com.sun.source.util.JavacTask;
import com.sun.source.util.SourcePositions;
import com.sun.source.util.TreePathScanner;
import com.sun.source.util.Trees;
import java.io.IOException;
import java.nio.file.Path;
import java.util.HashMap;
import java.util.HashSet;
import java.util.List;
import java.util.Map;
import java.util.Set;
import javax.lang.model.element.Element;
import javax.tools.JavaCompiler;
import javax.tools.StandardJavaFileManager;
import javax.tools.ToolProvider;

/** LANGUAGE.md, rule 11: methods stay short, and calls go at most eight deep; the class has no recursion at all. */
public final class DepthTest {
    private static final int DEEPEST = 8;
    private static final int LINES_MOST = 60;

    private final Map<Element, Set<Element>> calls = new HashMap<>();
    private final Map<Element, Integer> depths = new HashMap<>();
    private final Set<Element> open = new HashSet<>();
    private final Check check;

    private DepthTest(Check check) {
        this.check = check;
    }

    public static void main(String[] args) throws IOException {
        Check check = new Check("DepthTest");
        DepthTest test = new DepthTest(check);
        test.read(Project.SOURCE);
        for (Element method : test.calls.keySet()) {
            int depth = test.depth(method);
            check.due(method.getEnclosingElement() + "." + method + " goes " + depth + " deep", depth <= DEEPEST, true);
        }
        check.end();
    }

    private void read(Path source) throws IOException {
        JavaCompiler compiler = ToolProvider.getSystemJavaCompiler();
        try (StandardJavaFileManager files = compiler.getStandardFileManager(null, null, null)) {
            JavacTask task = (JavacTask) compiler.getTask(null, files, null, List.of("-proc:none"), null,
                    files.getJavaFileObjects(source));
            Iterable<? extends CompilationUnitTree> units = task.parse();
            task.analyze();
            for (CompilationUnitTree unit : units) {
                new Calls(Trees.instance(task), unit).scan(unit, null);
            }
        }
    }

    /** Gathers who calls whom; what stands in a field's initialiser counts as the constructor's. */
    private final class Calls extends TreePathScanner<Void, Element> {
        private final Trees trees;
        private final CompilationUnitTree unit;

        Calls(Trees trees, CompilationUnitTree unit) {
            this.trees = trees;
            this.unit = unit;
        }

        @Override
        public Void visitClass(ClassTree tree, Element caller) {
            Element constructor = null;
            for (Tree member : tree.getMembers()) {
                if (member instanceof MethodTree method && method.getReturnType() == null) {
                    constructor = trees.getElement(trees.getPath(unit, method));
                }
            }
            return super.visitClass(tree, constructor);
        }

        @Override
        public Void visitMethod(MethodTree tree, Element caller) {
            Element method = trees.getElement(getCurrentPath());
            calls.computeIfAbsent(method, any -> new HashSet<>());
            SourcePositions places = trees.getSourcePositions();
            LineMap lines = unit.getLineMap();
            long length = lines.getLineNumber(places.getEndPosition(unit, tree))
                    - lines.getLineNumber(places.getStartPosition(unit, tree)) + 1;
            check.due(method + " has " + length + " lines", length <= LINES_MOST, true);
            return super.visitMethod(tree, method);
        }

        @Override
        public Void visitMethodInvocation(MethodInvocationTree tree, Element caller) {
            enter(caller);
            return super.visitMethodInvocation(tree, caller);
        }

        @Override
        public Void visitNewClass(NewClassTree tree, Element caller) {
            enter(caller);
            return super.visitNewClass(tree, caller);
        }

        private void enter(Element caller) {
            if (caller != null) {
                calls.computeIfAbsent(caller, any -> new HashSet<>()).add(trees.getElement(getCurrentPath()));
            }
        }
    }

    /** Calls that stand open at once when this one does its deepest, itself and the library's first one counted. */
    private int depth(Element method) {
        if (depths.containsKey(method)) {
            return depths.get(method);
        }
        check.due(method + " calls itself", open.add(method), true);
        int deepest = 0;
        for (Element called : calls.getOrDefault(method, Set.of())) {
            if (!open.contains(called)) {
                deepest = Math.max(deepest, depth(called));
            } else {
                check.due(method + " and " + called + " call one another", true, false);
            }
        }
        open.remove(method);
        depths.put(method, deepest + 1);
        return deepest + 1;
    }
}
