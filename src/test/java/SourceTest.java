import com.sun.source.tree.BinaryTree;
import com.sun.source.tree.ClassTree;
import com.sun.source.tree.CompilationUnitTree;
import com.sun.source.tree.ImportTree;
import com.sun.source.tree.MethodInvocationTree;
import com.sun.source.tree.MethodTree;
import com.sun.source.tree.NewClassTree;
import com.sun.source.tree.Tree;
import com.sun.source.tree.Tree.Kind;
import com.sun.source.tree.VariableTree;
import com.sun.source.util.JavacTask;
import com.sun.source.util.SourcePositions;
import com.sun.source.util.TreePath;
import com.sun.source.util.TreePathScanner;
import com.sun.source.util.Trees;
import java.io.IOException;
import java.nio.file.Path;
import java.util.ArrayList;
import java.util.EnumSet;
import java.util.List;
import java.util.Map;
import java.util.Set;
import java.util.TreeMap;
import java.util.TreeSet;
import javax.lang.model.element.Element;
import javax.lang.model.element.ElementKind;
import javax.lang.model.element.Modifier;
import javax.tools.JavaCompiler;
import javax.tools.ToolProvider;

/**
 * The rules of LANGUAGE.md that show in the source alone: forms that it rules out, the length of methods, where
 * exceptions are thrown, that no method calls itself, and how deep calls go. javac reads the source.
 */
public final class SourceTest {
    private static final Path SOURCE = Path.of("src", "main", "java", "MergeWorkbench.java");
    private static final int LONGEST_METHOD = 60;
    private static final int DEEPEST_CALL = 8;
    private static final Set<String> EXCEPTIONS = Set.of("IllegalStateException", "IllegalArgumentException",
            "IndexOutOfBoundsException", "ArithmeticException", "UnsupportedOperationException",
            "NoSuchElementException", "RuntimeException");

    /** Rules 2, 6 and 10; what they allow, but the class has no need of, stays out of it, too. */
    private static final Set<Kind> RULED_OUT = EnumSet.of(Kind.LAMBDA_EXPRESSION, Kind.MEMBER_REFERENCE, Kind.TRY,
            Kind.CATCH, Kind.SYNCHRONIZED, Kind.ASSERT, Kind.TYPE_CAST, Kind.INSTANCE_OF, Kind.ANNOTATION);

    private final Map<String, Set<String>> callees = new TreeMap<>();
    private final Set<String> face = new TreeSet<>();

    private SourceTest() {
    }

    public static void main(String[] args) throws IOException {
        new SourceTest().look();
        Check.end();
    }

    private void look() throws IOException {
        JavaCompiler compiler = ToolProvider.getSystemJavaCompiler();
        var files = compiler.getStandardFileManager(null, null, null);
        JavacTask task = (JavacTask) compiler.getTask(null, files, null, null, null,
                files.getJavaFileObjects(SOURCE));
        Iterable<? extends CompilationUnitTree> units = task.parse();
        task.analyze();
        for (CompilationUnitTree unit : units) {
            Check.due("the package", String.valueOf(unit.getPackageName()), "null");
            Check.due("classes of the file", unit.getTypeDecls().size(), 1);
            for (ImportTree one : unit.getImports()) {
                Check.due("import", one.toString().trim(), "import java.util.NoSuchElementException;");
            }
            new Reader(unit, Trees.instance(task)).scan(unit, null);
        }
        Check.due("methods of the face", face.size(), 36 + 1);
        for (String method : face) {
            List<String> deepest = deepest(method, List.of());
            Check.due("calls of " + deepest + " are at most " + DEEPEST_CALL + " deep",
                    deepest.size() <= DEEPEST_CALL, true);
        }
        files.close();
    }

    /** The longest chain of calls that begins with this method; a method that is in it already is told. */
    private List<String> deepest(String method, List<String> open) {
        Check.due("recursion of " + method + " in " + open, open.contains(method), false);
        List<String> best = List.of();
        if (!open.contains(method)) {
            List<String> now = new ArrayList<>(open);
            now.add(method);
            for (String callee : callees.getOrDefault(method, Set.of())) {
                List<String> found = deepest(callee, now);
                best = found.size() > best.size() ? found : best;
            }
        }
        List<String> all = new ArrayList<>(List.of(method));
        all.addAll(best);
        return all;
    }

    private final class Reader extends TreePathScanner<Void, Void> {
        private final CompilationUnitTree unit;
        private final Trees trees;

        Reader(CompilationUnitTree unit, Trees trees) {
            this.unit = unit;
            this.trees = trees;
        }

        @Override
        public Void scan(Tree tree, Void nothing) {
            if (tree != null && RULED_OUT.contains(tree.getKind())) {
                Check.due("line " + line(tree) + ", " + tree.getKind(), isDoubleCast(tree), true);
            }
            return super.scan(tree, nothing);
        }

        private boolean isDoubleCast(Tree tree) {
            return tree.getKind() == Kind.TYPE_CAST && tree.toString().startsWith("(double)");
        }

        @Override
        public Void visitMethod(MethodTree method, Void nothing) {
            String name = name(trees.getElement(getCurrentPath()));
            callees.computeIfAbsent(name, key -> new TreeSet<>());
            if (method.getModifiers().getFlags().contains(Modifier.PUBLIC)) {
                face.add(name);
            }
            SourcePositions positions = trees.getSourcePositions();
            long lines = unit.getLineMap().getLineNumber(positions.getEndPosition(unit, method)) - line(method) + 1;
            Check.due(name + " has " + lines + " lines", lines <= LONGEST_METHOD, true);
            return super.visitMethod(method, nothing);
        }

        @Override
        public Void visitVariable(VariableTree variable, Void nothing) {
            Element element = trees.getElement(getCurrentPath());
            if (element.getKind() == ElementKind.FIELD && element.getModifiers().contains(Modifier.STATIC)) {
                Check.due("constant " + variable.getName() + " is a number that is written out",
                        ((javax.lang.model.element.VariableElement) element).getConstantValue() instanceof Integer,
                        true);
            }
            return super.visitVariable(variable, nothing);
        }

        @Override
        public Void visitClass(ClassTree type, Void nothing) {
            Tree parent = getCurrentPath().getParentPath().getLeaf();
            Check.due("line " + line(type) + ", the class lies in the file or in a class",
                    parent == unit || parent instanceof ClassTree, true);
            Check.due("line " + line(type) + ", no static initialiser",
                    type.getMembers().stream().noneMatch(member -> member.getKind() == Kind.BLOCK), true);
            return super.visitClass(type, nothing);
        }

        @Override
        public Void visitThrow(com.sun.source.tree.ThrowTree thrown, Void nothing) {
            boolean isWritten = thrown.getExpression() instanceof NewClassTree made
                    && EXCEPTIONS.contains(made.getIdentifier().toString()) && made.getArguments().size() <= 1
                    && made.getArguments().stream().allMatch(text -> text.getKind() == Kind.STRING_LITERAL);
            Check.due("line " + line(thrown) + ", the exception is new, with a written text", isWritten, true);
            Check.due("line " + line(thrown) + ", no throw in a constructor",
                    caller().endsWith(".<init>"), false);
            return super.visitThrow(thrown, nothing);
        }

        @Override
        public Void visitBinary(BinaryTree both, Void nothing) {
            boolean joins = trees.getTypeMirror(getCurrentPath()).toString().equals("java.lang.String");
            Check.due("line " + line(both) + ", texts are not joined by " + both.getKind(), joins, false);
            return super.visitBinary(both, nothing);
        }

        @Override
        public Void visitMethodInvocation(MethodInvocationTree call, Void nothing) {
            addCall(trees.getElement(getCurrentPath()));
            return super.visitMethodInvocation(call, nothing);
        }

        @Override
        public Void visitNewClass(NewClassTree made, Void nothing) {
            addCall(trees.getElement(getCurrentPath()));
            return super.visitNewClass(made, nothing);
        }

        private void addCall(Element callee) {
            String called = name(callee);
            if (called.startsWith("MergeWorkbench") && !called.equals("MergeWorkbench.<init>")) {
                callees.computeIfAbsent(caller(), key -> new TreeSet<>()).add(called);
            }
        }

        /** A field's initialiser is run by the constructor of its class. */
        private String caller() {
            TreePath path = getCurrentPath();
            while (!(path.getLeaf() instanceof MethodTree) && !(path.getLeaf() instanceof ClassTree)) {
                path = path.getParentPath();
            }
            Element element = trees.getElement(path);
            return path.getLeaf() instanceof ClassTree ? element + ".<init>" : name(element);
        }

        private String name(Element method) {
            return method.getEnclosingElement() + "." + method.getSimpleName();
        }

        private long line(Tree tree) {
            return unit.getLineMap().getLineNumber(trees.getSourcePositions().getStartPosition(unit, tree));
        }
    }
}
