import com.sun.source.tree.ClassTree;
import com.sun.source.tree.CompilationUnitTree;
import com.sun.source.tree.MethodInvocationTree;
import com.sun.source.tree.MethodTree;
import com.sun.source.tree.NewClassTree;
import com.sun.source.tree.Tree;
import com.sun.source.tree.VariableTree;
import com.sun.source.util.JavacTask;
import com.sun.source.util.TreePath;
import com.sun.source.util.TreePathScanner;
import com.sun.source.util.Trees;
import java.io.IOException;
import java.nio.file.Path;
import java.util.ArrayList;
import java.util.EnumSet;
import java.util.HashMap;
import java.util.HashSet;
import java.util.List;
import java.util.Map;
import java.util.Set;
import java.util.TreeMap;
import java.util.TreeSet;
import javax.lang.model.element.Element;
import javax.lang.model.element.ExecutableElement;
import javax.lang.model.element.Modifier;
import javax.tools.JavaCompiler;
import javax.tools.StandardJavaFileManager;
import javax.tools.ToolProvider;

/** LANGUAGE.md's rules that the source's tree tells: what stands in it, how long and how deep it is, what it calls. */
public final class ShapeTests {
    private static final Check check = new Check();
    private static final Set<Tree.Kind> NEVER = EnumSet.of(Tree.Kind.THROW, Tree.Kind.TRY, Tree.Kind.CATCH, Tree.Kind.SYNCHRONIZED,
        Tree.Kind.ASSERT, Tree.Kind.LAMBDA_EXPRESSION, Tree.Kind.MEMBER_REFERENCE, Tree.Kind.SWITCH_EXPRESSION, Tree.Kind.YIELD,
        Tree.Kind.ANNOTATION, Tree.Kind.IMPORT, Tree.Kind.PACKAGE, Tree.Kind.UNSIGNED_RIGHT_SHIFT_ASSIGNMENT);
    private static final Set<String> LIBRARY = Set.of("java.lang.String.length", "java.lang.String.charAt", "java.lang.Math.min",
        "java.lang.Math.max", "java.lang.Integer.bitCount", "java.lang.System.arraycopy");
    // Those that read a text call one another as deep as a text lets open.
    private static final Set<String> RECURSIVE = new TreeSet<>(Set.of("Reader.readE", "Reader.readAnd", "Reader.readNot",
        "Reader.readComparison", "Reader.readSum", "Reader.readTerm", "Reader.readOne", "Reader.readNegated", "Reader.readInBrackets"));

    private final Map<String, Set<String>> calls = new TreeMap<>();
    private final Set<String> publics = new TreeSet<>();
    private final Map<String, Integer> depths = new HashMap<>();

    public static void main(String[] args) throws IOException {
        new ShapeTests().look(Path.of(args[0]));
        check.end();
    }

    private static void so(String what, boolean so) {
        check.due(what, so ? 1 : 0, 1);
    }

    private void look(Path source) throws IOException {
        JavaCompiler compiler = ToolProvider.getSystemJavaCompiler();
        StandardJavaFileManager files = compiler.getStandardFileManager(null, null, null);
        JavacTask task = (JavacTask) compiler.getTask(null, files, null, List.of("-proc:none", "--release", "17"), null,
            files.getJavaFileObjects(source));
        Iterable<? extends CompilationUnitTree> units = task.parse();
        task.analyze();
        Scan scan = new Scan(Trees.instance(task));
        for (CompilationUnitTree unit : units) {
            scan.scan(unit, null);
        }
        recursion();
        depth();
    }

    /** Rule 8: none but those that are known to be bounded. */
    private void recursion() {
        Set<String> recursive = new TreeSet<>();
        for (String method : calls.keySet()) {
            if (reached(method).contains(method)) {
                recursive.add(method);
            }
        }
        so("recursive: " + recursive, recursive.equals(RECURSIVE));
    }

    private Set<String> reached(String from) {
        Set<String> reached = new HashSet<>();
        List<String> open = new ArrayList<>(calls.getOrDefault(from, Set.of()));
        while (!open.isEmpty()) {
            String method = open.remove(open.size() - 1);
            if (reached.add(method)) {
                open.addAll(calls.getOrDefault(method, Set.of()));
            }
        }
        return reached;
    }

    /** Rule 11: eight deep at most; all the recursive ones count as one. */
    private void depth() {
        for (String method : publics) {
            so(method + " is " + depth(method) + " deep", depth(method) <= 8);
        }
    }

    private int depth(String method) {
        if (depths.containsKey(method)) {
            return depths.get(method);
        }
        Set<String> next = new TreeSet<>();
        for (String one : RECURSIVE.contains(method) ? RECURSIVE : Set.of(method)) {
            next.addAll(calls.getOrDefault(one, Set.of()));
        }
        if (RECURSIVE.contains(method)) {
            next.removeAll(RECURSIVE);
        }
        int deepest = 0;
        for (String one : next) {
            deepest = Math.max(deepest, depth(one));
        }
        depths.put(method, deepest + 1);
        return deepest + 1;
    }

    private final class Scan extends TreePathScanner<Void, Void> {
        private final Trees trees;
        private String method = "";
        private int classes;

        Scan(Trees trees) {
            this.trees = trees;
        }

        @Override
        public Void scan(Tree tree, Void nothing) {
            if (tree != null) {
                so("rules 1 and 6: " + tree.getKind() + " in " + method, !NEVER.contains(tree.getKind()));
            }
            return super.scan(tree, nothing);
        }

        @Override
        public Void visitClass(ClassTree tree, Void nothing) {
            classes++;
            so("rule 11: some twelve classes", classes <= 12);
            int fields = 0;
            for (Tree member : tree.getMembers()) {
                boolean constant = member instanceof VariableTree v && v.getModifiers().getFlags().contains(Modifier.STATIC);
                fields += member instanceof VariableTree && !constant ? 1 : 0;
                so("rule 5: no initialiser block in " + tree.getSimpleName(), member.getKind() != Tree.Kind.BLOCK);
            }
            so("rule 11: " + tree.getSimpleName() + " has " + fields + " fields", fields <= 20);
            return super.visitClass(tree, nothing);
        }

        @Override
        public Void visitMethod(MethodTree tree, Void nothing) {
            Element element = trees.getElement(getCurrentPath());
            String outer = method;
            method = name((ExecutableElement) element);
            calls.putIfAbsent(method, new TreeSet<>());
            if (element.getModifiers().contains(Modifier.PUBLIC)) {
                publics.add(method);
            }
            so("rule 11: " + method + " takes seven at most", tree.getParameters().size() <= 7);
            so("rule 11: " + method + " has some sixty lines at most", lines(tree) <= 60);
            super.visitMethod(tree, nothing);
            method = outer;
            return null;
        }

        private long lines(MethodTree tree) {
            CompilationUnitTree unit = getCurrentPath().getCompilationUnit();
            long from = trees.getSourcePositions().getStartPosition(unit, tree);
            long to = trees.getSourcePositions().getEndPosition(unit, tree);
            return unit.getLineMap().getLineNumber(to) - unit.getLineMap().getLineNumber(from) + 1;
        }

        @Override
        public Void visitMethodInvocation(MethodInvocationTree tree, Void nothing) {
            called((ExecutableElement) trees.getElement(new TreePath(getCurrentPath(), tree.getMethodSelect())));
            return super.visitMethodInvocation(tree, nothing);
        }

        @Override
        public Void visitNewClass(NewClassTree tree, Void nothing) {
            so("rule 12: " + tree + " is made in a constructor or a field", method.isEmpty() || method.endsWith("<init>"));
            return super.visitNewClass(tree, nothing);
        }

        private void called(ExecutableElement element) {
            String owner = element.getEnclosingElement().toString();
            if (owner.startsWith("EveryoneWins")) {
                calls.computeIfAbsent(method, m -> new TreeSet<>()).add(name(element));
            } else if (!element.getSimpleName().contentEquals("<init>")) {
                so("rule 4: " + owner + "." + element.getSimpleName(), LIBRARY.contains(owner + "." + element.getSimpleName()));
            }
        }

        private String name(ExecutableElement element) {
            return element.getEnclosingElement().getSimpleName() + "." + element.getSimpleName();
        }
    }
}
