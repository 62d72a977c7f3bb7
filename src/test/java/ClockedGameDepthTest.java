import com.sun.source.tree.CompilationUnitTree;
import com.sun.source.tree.MethodInvocationTree;
import com.sun.source.tree.MethodTree;
import com.sun.source.tree.NewClassTree;
import com.sun.source.util.JavacTask;
import com.sun.source.util.TreePathScanner;
import com.sun.source.util.Trees;
import java.nio.file.Path;
import java.util.ArrayList;
import java.util.LinkedHashMap;
import java.util.LinkedHashSet;
import java.util.List;
import java.util.Map;
import java.util.Set;
import javax.lang.model.element.Element;
import javax.tools.JavaCompiler;
import javax.tools.StandardJavaFileManager;
import javax.tools.ToolProvider;

/**
 * The class's own methods call one another at most eight deep, and none calls itself, as rules 8 and 11 of
 * LANGUAGE.md want: read from the file itself, since a run shows only the calls that it makes.
 */
public final class ClockedGameDepthTest {
    private static final Path SOURCE = Path.of("src/main/java/ClockedGame.java");
    private static final int MOST = 8;

    private static final Map<Element, Set<Element>> CALLS = new LinkedHashMap<>();
    private static int wrong = 0;

    /** Notes which method of the file calls which. */
    private static final class Reader extends TreePathScanner<Void, Element> {
        private final Trees trees;

        Reader(Trees trees) {
            this.trees = trees;
        }

        @Override
        public Void visitMethod(MethodTree method, Element outer) {
            Element here = trees.getElement(getCurrentPath());
            CALLS.put(here, new LinkedHashSet<>());
            return super.visitMethod(method, here);
        }

        @Override
        public Void visitMethodInvocation(MethodInvocationTree call, Element caller) {
            note(caller);
            return super.visitMethodInvocation(call, caller);
        }

        @Override
        public Void visitNewClass(NewClassTree call, Element caller) {
            note(caller);
            return super.visitNewClass(call, caller);
        }

        private void note(Element caller) {
            if (caller != null) CALLS.get(caller).add(trees.getElement(getCurrentPath()));
        }
    }

    private static void readCalls() throws Exception {
        JavaCompiler compiler = ToolProvider.getSystemJavaCompiler();
        try (StandardJavaFileManager files = compiler.getStandardFileManager(null, null, null)) {
            JavacTask task = (JavacTask) compiler.getTask(null, files, null, List.of("-proc:none"), null, files.getJavaFileObjects(SOURCE));
            Iterable<? extends CompilationUnitTree> parsed = task.parse();
            task.analyze();
            for (CompilationUnitTree unit : parsed) new Reader(Trees.instance(task)).scan(unit, null);
        }
    }

    /** Follows every chain of calls from the last method of this one; the class is small enough for that. */
    private static void follow(List<Element> chain) {
        Element last = chain.get(chain.size() - 1);
        if (chain.size() > MOST || chain.indexOf(last) < chain.size() - 1) {
            wrong++;
            System.out.println("calls that go too deep: " + chain);
            return;
        }
        for (Element next : CALLS.get(last)) {
            if (!CALLS.containsKey(next)) continue;
            chain.add(next);
            follow(chain);
            chain.remove(chain.size() - 1);
        }
    }

    public static void main(String[] args) throws Exception {
        readCalls();
        if (CALLS.size() < 27) {
            wrong++;
            System.out.println("only " + CALLS.size() + " methods were read");
        }
        for (Element method : CALLS.keySet()) follow(new ArrayList<>(List.of(method)));
        System.out.println(wrong == 0 ? "no calls go too deep" : wrong + " chains of calls go too deep");
        if (wrong != 0) System.exit(1);
    }
}
