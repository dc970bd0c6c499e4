import com.sun.source.tree.CompilationUnitTree;
import com.sun.source.tree.MethodInvocationTree;
import com.sun.source.tree.MethodTree;
import com.sun.source.tree.NewClassTree;
import com.sun.source.util.JavacTask;
import com.sun.source.util.TreePathScanner;
import com.sun.source.util.Trees;
import java.nio.file.Paths;
import java.util.ArrayList;
import java.util.HashMap;
import java.util.LinkedHashSet;
import java.util.List;
import java.util.Map;
import java.util.Set;
import javax.lang.model.element.Element;
import javax.lang.model.element.Modifier;
import javax.tools.JavaCompiler;
import javax.tools.StandardJavaFileManager;
import javax.tools.ToolProvider;

/** Calls that are no recursion go at most eight deep, the library's counted; it runs in the project's folder. */
public final class DepthTest {
    private static final Map<Element, Set<Element>> CALLS = new HashMap<>();
    private static final List<Element> FACE = new ArrayList<>();

    public static void main(String[] args) throws Exception {
        JavaCompiler compiler = ToolProvider.getSystemJavaCompiler();
        if (compiler == null) {
            System.out.println("DepthTest: this java has no compiler in it, nothing is looked at");
            return;
        }
        try (StandardJavaFileManager files = compiler.getStandardFileManager(null, null, null)) {
            JavacTask task = (JavacTask) compiler.getTask(null, files, null, List.of("-proc:none"), null,
                files.getJavaFileObjects(Paths.get("src/main/java/RopeSwing.java")));
            Iterable<? extends CompilationUnitTree> units = task.parse();
            task.analyze();
            for (CompilationUnitTree unit : units) {
                new Finder(Trees.instance(task)).scan(unit, null);
            }
        }
        Check.due("constructor and methods of the face", FACE.size(), 31);
        for (Element one : FACE) {
            List<Element> deepest = deepest(one, new ArrayList<>());
            Check.holds(deepest + " is " + deepest.size() + " deep", deepest.size() <= 8);
        }
        Check.end("DepthTest");
    }

    /** The longest chain of calls from a method on. */
    private static List<Element> deepest(Element one, List<Element> open) {
        Check.holds(one + " does not come to call itself: " + open, !open.contains(one));
        List<Element> longest = new ArrayList<>();
        if (open.contains(one)) {
            return longest;
        }
        open.add(one);
        for (Element called : CALLS.getOrDefault(one, Set.of())) {
            List<Element> chain = deepest(called, open);
            longest = chain.size() > longest.size() ? chain : longest;
        }
        open.remove(open.size() - 1);
        List<Element> all = new ArrayList<>(List.of(one));
        all.addAll(longest);
        return all;
    }

    /** Notes which method calls which. */
    private static final class Finder extends TreePathScanner<Void, Void> {
        private final Trees trees;
        private Element in;

        Finder(Trees trees) {
            this.trees = trees;
        }

        @Override
        public Void visitMethod(MethodTree tree, Void nothing) {
            Element outer = in;
            in = trees.getElement(getCurrentPath());
            CALLS.computeIfAbsent(in, k -> new LinkedHashSet<>());
            if (in.getModifiers().contains(Modifier.PUBLIC)) {
                FACE.add(in);
            }
            super.visitMethod(tree, nothing);
            in = outer;
            return null;
        }

        @Override
        public Void visitMethodInvocation(MethodInvocationTree tree, Void nothing) {
            note();
            return super.visitMethodInvocation(tree, nothing);
        }

        @Override
        public Void visitNewClass(NewClassTree tree, Void nothing) {
            note();
            return super.visitNewClass(tree, nothing);
        }

        private void note() {
            if (in != null) {
                CALLS.get(in).add(trees.getElement(getCurrentPath()));
            }
        }
    }
}
