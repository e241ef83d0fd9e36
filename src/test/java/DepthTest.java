import com.sun.source.tree.ClassTree;
import com.sun.source.tree.CompilationUnitTree;
import com.sun.source.tree.MethodInvocationTree;
import com.sun.source.tree.MethodTree;
import com.sun.source.tree.NewClassTree;
import com.sun.source.tree.Tree;
import com.sun.source.tree.VariableTree;
import com.sun.source.util.JavacTask;
import com.sun.source.util.TreePathScanner;
import com.sun.source.util.Trees;
import java.nio.file.Path;
import java.util.ArrayList;
import java.util.HashSet;
import java.util.List;
import java.util.Map;
import java.util.Set;
import java.util.TreeMap;
import java.util.TreeSet;
import javax.lang.model.element.Element;
import javax.lang.model.element.Modifier;
import javax.tools.JavaCompiler;
import javax.tools.StandardJavaFileManager;
import javax.tools.ToolProvider;

/** LANGUAGE.md, rules 8 and 11: how deep calls go, which call themselves, how many fields a class has. */
public final class DepthTest extends TreePathScanner<Void, String> {
    private static final int DEEPEST = 8;
    private static final int FIELDS = 20;
    // Each of these loses a member a level, so it ends within seven.
    private static final Set<String> RECURSIVE = Set.of("Odds.throwFrom", "Sway.stepsFrom");

    private final Map<String, Set<String>> calls = new TreeMap<>();
    private Trees trees;
    private String inside = "";
    private int wrong = 0;

    public static void main(String[] args) throws Exception {
        new DepthTest().go();
    }

    private void go() throws Exception {
        JavaCompiler compiler = ToolProvider.getSystemJavaCompiler();
        try (StandardJavaFileManager files = compiler.getStandardFileManager(null, null, null)) {
            JavacTask task = (JavacTask) compiler.getTask(null, files, null, List.of("-proc:none"), null,
                    files.getJavaFileObjects(Path.of("src/main/java/PaperVote.java")));
            Iterable<? extends CompilationUnitTree> units = task.parse();
            task.analyze();
            trees = Trees.instance(task);
            for (CompilationUnitTree unit : units) {
                scan(unit, null);
            }
        }
        int deepest = 0;
        for (String name : calls.keySet()) {
            List<String> way = deepestFrom(name, new HashSet<>());
            deepest = Math.max(deepest, way.size());
            due(way.size() <= DEEPEST, "calls go " + way.size() + " deep: " + way);
        }
        due(calls.size() > 100, "only " + calls.size() + " methods were seen");
        System.out.println("calls go " + deepest + " deep, " + wrong + " breaches");
        if (wrong != 0) {
            System.exit(1);
        }
    }

    private void due(boolean right, String text) {
        if (!right) {
            wrong++;
            System.out.println(text);
        }
    }

    @Override
    public Void visitClass(ClassTree tree, String method) {
        String outside = inside;
        inside = tree.getSimpleName().toString();
        int fields = 0;
        for (Tree member : tree.getMembers()) {
            if (member instanceof VariableTree field
                    && !field.getModifiers().getFlags().contains(Modifier.STATIC)) {
                fields++;
            }
        }
        due(fields <= FIELDS, inside + " has " + fields + " fields");
        super.visitClass(tree, method);
        inside = outside;
        return null;
    }

    @Override
    public Void visitMethod(MethodTree tree, String method) {
        String name = inside + "." + tree.getName();
        calls.putIfAbsent(name, new TreeSet<>());
        return super.visitMethod(tree, name);
    }

    @Override
    public Void visitMethodInvocation(MethodInvocationTree tree, String method) {
        note(method);
        return super.visitMethodInvocation(tree, method);
    }

    @Override
    public Void visitNewClass(NewClassTree tree, String method) {
        note(method);
        return super.visitNewClass(tree, method);
    }

    private void note(String method) {
        Element called = trees.getElement(getCurrentPath());
        if (method != null && called != null) {
            calls.get(method).add(called.getEnclosingElement().getSimpleName() + "." + called.getSimpleName());
        }
    }

    /** The longest way of calls, the library's counted too, that goes through none twice. */
    private List<String> deepestFrom(String name, Set<String> open) {
        open.add(name);
        List<String> longest = List.of();
        for (String next : calls.getOrDefault(name, Set.of())) {
            if (open.contains(next)) {
                due(next.equals(name) && RECURSIVE.contains(name), name + " calls " + next + " again");
            } else {
                List<String> way = deepestFrom(next, open);
                longest = way.size() > longest.size() ? way : longest;
            }
        }
        open.remove(name);
        List<String> whole = new ArrayList<>(List.of(name));
        whole.addAll(longest);
        return whole;
    }
}
