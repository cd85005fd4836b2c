import com.sun.source.tree.ClassTree;
import com.sun.source.tree.CompilationUnitTree;
import com.sun.source.tree.MethodInvocationTree;
import com.sun.source.tree.MethodTree;
import com.sun.source.tree.NewArrayTree;
import com.sun.source.tree.NewClassTree;
import com.sun.source.tree.Tree;
import com.sun.source.util.JavacTask;
import com.sun.source.util.TreePathScanner;
import com.sun.source.util.Trees;
import java.io.IOException;
import java.nio.file.Path;
import java.util.HashMap;
import java.util.List;
import java.util.Map;
import java.util.TreeSet;
import javax.lang.model.element.Element;
import javax.tools.JavaCompiler;
import javax.tools.StandardJavaFileManager;
import javax.tools.ToolProvider;

/**
 * Rules 8, 11 and 12 of ../shared/LANGUAGE.md: who calls whom in the source and how deep, which method calls itself,
 * and that constructors alone make objects and arrays (so that no run of calls fills the room).
 */
public final class SourceTest {
    private static final Path SOURCE = Path.of("src/main/java/PetalPictures.java");
    private static final int DEEPEST = 8;
    /** The one method that may call itself: it carries its depth as an argument. */
    private static final String RECURSIVE = "Acts.runBody";
    private static final String CONSTRUCTOR = ".<init>";

    /** Of each method of the source, by class and name: what it calls, the library's methods too. */
    private static final Map<String, TreeSet<String>> CALLED = new HashMap<>();
    private static final Map<String, Integer> DEPTHS = new HashMap<>();

    public static void main(String[] args) throws IOException {
        JavaCompiler compiler = ToolProvider.getSystemJavaCompiler();
        if (compiler == null) {
            Check.fail("this java has no compiler");
            Check.end();
            return;
        }
        try (StandardJavaFileManager files = compiler.getStandardFileManager(null, null, null)) {
            JavacTask task = (JavacTask) compiler.getTask(null, files, null, List.of("-proc:none"), null,
                files.getJavaFileObjects(SOURCE));
            Iterable<? extends CompilationUnitTree> units = task.parse();
            task.analyze();
            Trees trees = Trees.instance(task);
            for (CompilationUnitTree unit : units) {
                new Caller(trees).scan(unit, null);
            }
        }
        Check.due("methods were found", CALLED.size() > 100 ? 1 : 0, 1);
        Check.due(RECURSIVE + " calls itself", CALLED.get(RECURSIVE).contains(RECURSIVE) ? 1 : 0, 1);
        for (String method : CALLED.keySet()) {
            int depth = depthOf(method, "");
            if (depth > DEEPEST) {
                Check.fail(method + " goes " + depth + " calls deep: " + pathOf(method));
            }
        }
        Check.end();
    }

    /** Notes for each method what stands in it; what fields begin with belongs to the constructors. */
    private static final class Caller extends TreePathScanner<Void, String> {
        private final Trees trees;

        Caller(Trees trees) {
            this.trees = trees;
        }

        private static String nameOf(Element of) {
            return of.getEnclosingElement().getSimpleName() + "." + of.getSimpleName();
        }

        private void note(String from, Element to) {
            if (from != null && to != null) {
                CALLED.computeIfAbsent(from, name -> new TreeSet<>()).add(nameOf(to));
            }
        }

        @Override
        public Void visitClass(ClassTree tree, String in) {
            return super.visitClass(tree, trees.getElement(getCurrentPath()).getSimpleName() + CONSTRUCTOR);
        }

        @Override
        public Void visitMethod(MethodTree tree, String in) {
            String name = nameOf(trees.getElement(getCurrentPath()));
            CALLED.computeIfAbsent(name, one -> new TreeSet<>());
            return super.visitMethod(tree, name);
        }

        @Override
        public Void visitMethodInvocation(MethodInvocationTree tree, String in) {
            note(in, trees.getElement(getCurrentPath()));
            return super.visitMethodInvocation(tree, in);
        }

        @Override
        public Void visitNewClass(NewClassTree tree, String in) {
            note(in, trees.getElement(getCurrentPath()));
            makes(in, tree);
            return super.visitNewClass(tree, in);
        }

        @Override
        public Void visitNewArray(NewArrayTree tree, String in) {
            makes(in, tree);
            return super.visitNewArray(tree, in);
        }

        private static void makes(String in, Tree made) {
            if (in == null || !in.endsWith(CONSTRUCTOR)) {
                Check.fail(in + " makes " + made);
            }
        }
    }

    /** How many calls stand open at most, the method itself and one of the library's too. */
    private static int depthOf(String method, String behind) {
        Integer known = DEPTHS.get(method);
        if (known != null) {
            return known;
        }
        String here = behind + " " + method + " ";
        int below = 0;
        for (String called : CALLED.getOrDefault(method, new TreeSet<>())) {
            if (called.equals(method) && method.equals(RECURSIVE)) {
                continue;
            }
            if (here.contains(" " + called + " ")) {
                Check.fail("calls that come back to themselves:" + here + called);
                continue;
            }
            below = Math.max(below, depthOf(called, here));
        }
        DEPTHS.put(method, below + 1);
        return below + 1;
    }

    private static String pathOf(String method) {
        String deepest = null;
        for (String called : CALLED.getOrDefault(method, new TreeSet<>())) {
            if (!called.equals(method) && (deepest == null || DEPTHS.get(called) > DEPTHS.get(deepest))) {
                deepest = called;
            }
        }
        return deepest == null ? method : method + " > " + pathOf(deepest);
    }
}
