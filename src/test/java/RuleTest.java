import com.sun.source.tree.AssignmentTree;
import com.sun.source.tree.BinaryTree;
import com.sun.source.tree.ClassTree;
import com.sun.source.tree.CompilationUnitTree;
import com.sun.source.tree.CompoundAssignmentTree;
import com.sun.source.tree.ExpressionTree;
import com.sun.source.tree.LiteralTree;
import com.sun.source.tree.MethodInvocationTree;
import com.sun.source.tree.MethodTree;
import com.sun.source.tree.NewArrayTree;
import com.sun.source.tree.NewClassTree;
import com.sun.source.tree.ThrowTree;
import com.sun.source.tree.Tree;
import com.sun.source.tree.VariableTree;
import com.sun.source.util.JavacTask;
import com.sun.source.util.TreePath;
import com.sun.source.util.TreePathScanner;
import com.sun.source.util.Trees;
import java.io.IOException;
import java.nio.file.Path;
import java.util.ArrayDeque;
import java.util.Deque;
import java.util.List;
import java.util.Map;
import java.util.Set;
import java.util.TreeMap;
import java.util.TreeSet;
import javax.lang.model.element.Element;
import javax.lang.model.element.ElementKind;
import javax.lang.model.element.Modifier;
import javax.tools.JavaCompiler;
import javax.tools.JavaFileObject;
import javax.tools.StandardJavaFileManager;
import javax.tools.ToolProvider;

/** Rules of LANGUAGE.md that the compiler's own tree of the class can tell of. */
public final class RuleTest {
    private static final Check CHECK = new Check("RuleTest");
    private static final int DEEPEST = 8;
    private static final int MOST_PARAMETERS = 7;
    private static final int MOST_LINES = 60;
    private static final Set<String> LIBRARY = Set.of("String.length", "String.charAt", "String.isEmpty",
            "String.equals", "String.indexOf", "String.substring", "String.toCharArray", "Math.max", "Math.min",
            "Math.abs", "Math.floorMod", "Math.floorDiv", "Integer.bitCount", "Integer.compare",
            "Long.compare", "System.arraycopy", "Arrays.copyOf", "Arrays.copyOfRange", "Arrays.fill");
    private static final Set<String> EXCEPTIONS = Set.of("IllegalStateException", "IllegalArgumentException",
            "IndexOutOfBoundsException", "ArithmeticException", "UnsupportedOperationException",
            "NoSuchElementException", "RuntimeException");
    private static final Set<String> STATIC_TYPES = Set.of("int", "long", "boolean", "char", "String");

    public static void main(String[] args) throws IOException {
        Looker looker = look(Path.of(args.length > 0 ? args[0] : "src/main/java/JarCabinet.java"));
        CHECK.due("wrong by a rule", "[]", () -> looker.wrong);
        CHECK.due("methods were found", true, () -> looker.calls.size() > 49);
        for (String method : looker.face) {
            List<String> chain = looker.longestChain(method, new ArrayDeque<>());
            CHECK.due("rule 11, eight calls deep: " + chain, true, () -> chain.size() <= DEEPEST);
        }
        CHECK.due("rule 8, methods that come back to themselves",
                "[Foresight.findAnswerer, Foresight.makeRoom, LawReader.readAny, LawReader.readAtom, "
                        + "LawReader.readDeeper]", looker::comingBack);
        CHECK.end();
    }

    private static Looker look(Path file) throws IOException {
        JavaCompiler compiler = ToolProvider.getSystemJavaCompiler();
        try (StandardJavaFileManager files = compiler.getStandardFileManager(null, null, null)) {
            Iterable<? extends JavaFileObject> units = files.getJavaFileObjects(file);
            JavacTask task = (JavacTask) compiler.getTask(null, files, null, List.of("-proc:none"), null, units);
            Looker looker = new Looker(Trees.instance(task));
            Iterable<? extends CompilationUnitTree> parsed = task.parse();
            task.analyze();
            for (CompilationUnitTree unit : parsed) {
                looker.scan(unit, null);
            }
            return looker;
        }
    }

    /** Goes through the class once: what each method calls, and what a rule does not allow. */
    private static final class Looker extends TreePathScanner<Void, Void> {
        final Map<String, Set<String>> calls = new TreeMap<>();
        final Set<String> face = new TreeSet<>();
        final Set<String> wrong = new TreeSet<>();
        private final Trees trees;
        private String method = "";
        private boolean constructing = false;
        private boolean throwing = false;

        Looker(Trees trees) {
            this.trees = trees;
        }

        /** The longest chain of calls that has no method twice; the library's own are not counted. */
        List<String> longestChain(String from, Deque<String> open) {
            open.addLast(from);
            List<String> longest = List.copyOf(open);
            for (String to : calls.get(from)) {
                if (!open.contains(to)) {
                    List<String> chain = longestChain(to, open);
                    longest = chain.size() > longest.size() ? chain : longest;
                }
            }
            open.removeLast();
            return longest;
        }

        Set<String> comingBack() {
            Set<String> found = new TreeSet<>();
            for (String from : calls.keySet()) {
                Set<String> reached = new TreeSet<>();
                Deque<String> next = new ArrayDeque<>(calls.get(from));
                while (!next.isEmpty()) {
                    String to = next.removeLast();
                    if (reached.add(to)) {
                        next.addAll(calls.get(to));
                    }
                }
                if (reached.contains(from)) {
                    found.add(from);
                }
            }
            return found;
        }

        private void rule(int number, boolean kept, Tree where) {
            if (!kept) {
                CompilationUnitTree unit = getCurrentPath().getCompilationUnit();
                long at = trees.getSourcePositions().getStartPosition(unit, where);
                wrong.add("rule " + number + " in line " + unit.getLineMap().getLineNumber(at));
            }
        }

        private String nameOf(Element e) {
            return e.getEnclosingElement().getSimpleName() + "." + e.getSimpleName();
        }

        private String typeOf(Tree tree) {
            String type = String.valueOf(trees.getTypeMirror(new TreePath(getCurrentPath(), tree)));
            return type.substring(type.lastIndexOf('.') + 1);
        }

        @Override
        public Void visitClass(ClassTree tree, Void none) {
            Element e = trees.getElement(getCurrentPath());
            boolean inside = e.getEnclosingElement().getKind() == ElementKind.CLASS;
            rule(1, !inside || e.getModifiers().contains(Modifier.STATIC), tree);
            constructing = true;
            method = nameOf(e) + ".made";
            calls.computeIfAbsent(method, m -> new TreeSet<>());
            return super.visitClass(tree, none);
        }

        @Override
        public Void visitMethod(MethodTree tree, Void none) {
            Element e = trees.getElement(getCurrentPath());
            String outerMethod = method;
            method = nameOf(e);
            calls.computeIfAbsent(method, m -> new TreeSet<>());
            if (e.getModifiers().contains(Modifier.PUBLIC)) {
                face.add(method);
            }
            rule(11, tree.getParameters().size() <= MOST_PARAMETERS, tree);
            rule(11, linesOf(tree) <= MOST_LINES, tree);
            constructing = e.getKind() == ElementKind.CONSTRUCTOR;
            super.visitMethod(tree, none);
            constructing = true;
            method = outerMethod;
            return null;
        }

        private long linesOf(Tree tree) {
            CompilationUnitTree unit = getCurrentPath().getCompilationUnit();
            long from = trees.getSourcePositions().getStartPosition(unit, tree);
            long to = trees.getSourcePositions().getEndPosition(unit, tree);
            return to < 0 ? 0 : unit.getLineMap().getLineNumber(to) - unit.getLineMap().getLineNumber(from) + 1;
        }

        @Override
        public Void visitVariable(VariableTree tree, Void none) {
            Element e = trees.getElement(getCurrentPath());
            if (e.getKind() == ElementKind.FIELD && e.getModifiers().contains(Modifier.STATIC)) {
                rule(5, e.getModifiers().contains(Modifier.FINAL), tree);
                rule(5, STATIC_TYPES.contains(String.valueOf(tree.getType())), tree);
            }
            return super.visitVariable(tree, none);
        }

        @Override
        public Void visitMethodInvocation(MethodInvocationTree tree, Void none) {
            Element e = trees.getElement(getCurrentPath());
            String name = nameOf(e);
            if (String.valueOf(e.getEnclosingElement()).startsWith("JarCabinet")) {
                calls.get(method).add(name);
            } else if (e.getKind() != ElementKind.CONSTRUCTOR) {
                rule(4, LIBRARY.contains(name), tree);
            }
            return super.visitMethodInvocation(tree, none);
        }

        @Override
        public Void visitThrow(ThrowTree tree, Void none) {
            rule(6, !constructing && tree.getExpression() instanceof NewClassTree, tree);
            throwing = true;
            super.visitThrow(tree, none);
            throwing = false;
            return null;
        }

        /** Beside its exceptions no call makes an object: rule 12 counts all that a run makes. */
        @Override
        public Void visitNewClass(NewClassTree tree, Void none) {
            if (throwing) {
                rule(6, EXCEPTIONS.contains(String.valueOf(tree.getIdentifier())), tree);
                for (ExpressionTree text : tree.getArguments()) {
                    rule(6, text instanceof LiteralTree, tree);
                }
            } else {
                rule(12, constructing, tree);
            }
            return super.visitNewClass(tree, none);
        }

        @Override
        public Void visitNewArray(NewArrayTree tree, Void none) {
            rule(12, constructing, tree);
            return super.visitNewArray(tree, none);
        }

        @Override
        public Void visitBinary(BinaryTree tree, Void none) {
            String left = typeOf(tree.getLeftOperand());
            String right = typeOf(tree.getRightOperand());
            boolean texts = left.equals("String") || right.equals("String");
            rule(10, !texts || tree.getKind() != Tree.Kind.PLUS, tree);
            rule(6, !(left.equals("String") && right.equals("String")), tree);
            return super.visitBinary(tree, none);
        }

        @Override
        public Void visitCompoundAssignment(CompoundAssignmentTree tree, Void none) {
            rule(10, !typeOf(tree.getVariable()).equals("String"), tree);
            return super.visitCompoundAssignment(tree, none);
        }

        /** A row that is told anew would be an object more, or one that two own. */
        @Override
        public Void visitAssignment(AssignmentTree tree, Void none) {
            rule(12, constructing || !typeOf(tree.getVariable()).endsWith("[]"), tree);
            return super.visitAssignment(tree, none);
        }
    }
}
