import com.sun.source.tree.ClassTree;
import com.sun.source.tree.CompilationUnitTree;
import com.sun.source.tree.MethodInvocationTree;
import com.sun.source.tree.MethodTree;
import com.sun.source.tree.NewClassTree;
import com.sun.source.tree.VariableTree;
import com.sun.source.util.JavacTask;
import com.sun.source.util.TreePath;
import com.sun.source.util.TreePathScanner;
import com.sun.source.util.Trees;
import java.io.IOException;
import java.nio.file.Path;
import java.util.ArrayList;
import java.util.HashMap;
import java.util.LinkedHashSet;
import java.util.List;
import java.util.Map;
import java.util.Set;
import javax.lang.model.element.Element;
import javax.lang.model.element.Modifier;
import javax.tools.JavaCompiler;
import javax.tools.StandardJavaFileManager;
import javax.tools.ToolProvider;

/**
 * What ../shared/LANGUAGE.md says of how deep calls go and how much a class holds (rules 9 to 12), as the
 * compiler reads the program: the calls of methods of the program's own, from the outermost to the innermost.
 */
final class DepthTest extends TreePathScanner<Void, Void> {
    private static final int DEEPEST = 8;
    private static final int FIELDS = 20;
    private static final Due due = new Due("DepthTest");

    private final Trees trees;
    private final Map<Element, Set<Element>> calls = new HashMap<>();
    private final Map<Element, Integer> depths = new HashMap<>();
    private final List<Element> standing = new ArrayList<>();
    private Element caller;

    private DepthTest(Trees trees) {
        this.trees = trees;
    }

    public static void main(String[] args) throws IOException {
        Path source = Path.of(System.getProperty("rowpruner.source", "src/main/java/RowPruner.java"));
        JavaCompiler compiler = ToolProvider.getSystemJavaCompiler();
        try (StandardJavaFileManager files = compiler.getStandardFileManager(null, null, null)) {
            JavacTask task = (JavacTask) compiler.getTask(null, files, null, List.of("-proc:none"), null, files.getJavaFileObjects(source));
            DepthTest test = new DepthTest(Trees.instance(task));
            List<CompilationUnitTree> units = new ArrayList<>();
            task.parse().forEach(units::add);
            task.analyze();
            for (CompilationUnitTree unit : units) test.scan(new TreePath(unit), null);
            test.hold();
        }
        due.end();
    }

    private void hold() {
        due.is("methods and constructors", calls.size() > 100 ? 1 : 0, 1);
        for (Element method : calls.keySet()) {
            int depth = depth(method);
            due.is("calls from " + method.getEnclosingElement() + "." + method + " go " + depth + " deep", depth <= DEEPEST ? 1 : 0, 1);
        }
    }

    /** How many calls stand open at most, this one too; the program has no recursion. */
    private int depth(Element method) {
        if (standing.contains(method)) {
            due.is("recursion through " + method, 1, 0);
            return 0;
        }
        if (depths.containsKey(method)) return depths.get(method);
        standing.add(method);
        int deepest = 0;
        for (Element called : calls.getOrDefault(method, Set.of())) {
            if (calls.containsKey(called)) deepest = Math.max(deepest, depth(called));
        }
        standing.remove(method);
        depths.put(method, deepest + 1);
        return deepest + 1;
    }

    private Element element() {
        return trees.getElement(getCurrentPath());
    }

    @Override
    public Void visitClass(ClassTree tree, Void none) {
        long fields = tree.getMembers().stream().filter(member -> member instanceof VariableTree)
            .filter(member -> !((VariableTree) member).getModifiers().getFlags().contains(Modifier.STATIC)).count();
        due.is("fields of " + tree.getSimpleName() + ": " + fields, fields <= FIELDS ? 1 : 0, 1);
        return super.visitClass(tree, none);
    }

    @Override
    public Void visitMethod(MethodTree tree, Void none) {
        caller = element();
        calls.put(caller, new LinkedHashSet<>());
        super.visitMethod(tree, none);
        caller = null;
        return null;
    }

    @Override
    public Void visitMethodInvocation(MethodInvocationTree tree, Void none) {
        if (caller != null) calls.get(caller).add(element());
        return super.visitMethodInvocation(tree, none);
    }

    @Override
    public Void visitNewClass(NewClassTree tree, Void none) {
        if (caller != null) {
            calls.get(caller).add(element());
            due.is("an object is made behind the constructors, by " + caller, caller.getSimpleName().contentEquals("<init>") ? 0 : 1, 0);
        }
        return super.visitNewClass(tree, none);
    }
}
