import com.sun.source.tree.BinaryTree;
import com.sun.source.tree.ClassTree;
import com.sun.source.tree.CompilationUnitTree;
import com.sun.source.tree.CompoundAssignmentTree;
import com.sun.source.tree.DoWhileLoopTree;
import com.sun.source.tree.ForLoopTree;
import com.sun.source.tree.IdentifierTree;
import com.sun.source.tree.MemberSelectTree;
import com.sun.source.tree.MethodInvocationTree;
import com.sun.source.tree.MethodTree;
import com.sun.source.tree.NewArrayTree;
import com.sun.source.tree.NewClassTree;
import com.sun.source.tree.Tree;
import com.sun.source.tree.VariableTree;
import com.sun.source.tree.WhileLoopTree;
import com.sun.source.util.JavacTask;
import com.sun.source.util.SourcePositions;
import com.sun.source.util.TreePath;
import com.sun.source.util.TreePathScanner;
import com.sun.source.util.Trees;
import java.io.IOException;
import java.nio.file.Path;
import java.util.ArrayList;
import java.util.List;
import java.util.Map;
import java.util.Set;
import java.util.TreeMap;
import java.util.TreeSet;
import javax.lang.model.element.Element;
import javax.lang.model.element.ElementKind;
import javax.lang.model.element.Modifier;
import javax.tools.JavaCompiler;
import javax.tools.StandardJavaFileManager;
import javax.tools.ToolProvider;

/** What javac says of a source file: the facts that the rules of LANGUAGE.md speak of. */
final class Source {
    /** Of each method or constructor: those that it calls. */
    final Map<String, Set<String>> calls = new TreeMap<>();
    final Map<String, Integer> lines = new TreeMap<>();
    final Set<String> publicMethods = new TreeSet<>();
    final Set<String> types = new TreeSet<>();
    final Set<String> libraryCalls = new TreeSet<>();
    /** Classes that stand in a method or have no name. */
    final List<String> classesInMethods = new ArrayList<>();
    /** Whatever is made outside of constructors and initialisers. */
    final List<String> madeByCalls = new ArrayList<>();
    final List<String> loopsWithoutBound = new ArrayList<>();
    /** Divisors that are no number and are not held against 1 in the same method. */
    final List<String> divisorsNotTested = new ArrayList<>();
    /** The object handed on as a whole. */
    final List<String> handedOut = new ArrayList<>();

    private final Trees trees;
    private final SourcePositions positions;

    Source(Path file) throws IOException {
        JavaCompiler compiler = ToolProvider.getSystemJavaCompiler();
        try (StandardJavaFileManager manager = compiler.getStandardFileManager(null, null, null)) {
            JavacTask task = (JavacTask) compiler.getTask(null, manager, null, List.of("-proc:none"), null,
                manager.getJavaFileObjects(file));
            trees = Trees.instance(task);
            positions = trees.getSourcePositions();
            Iterable<? extends CompilationUnitTree> units = task.parse();
            task.analyze();
            for (CompilationUnitTree unit : units) {
                new Reader(unit).scan(unit, null);
            }
        }
    }

    /** The longest chain of calls that begins with a method, itself counted; -1 if one calls itself again. */
    int depthFrom(String method) {
        return depthFrom(method, new TreeSet<>());
    }

    private int depthFrom(String method, Set<String> open) {
        if (!open.add(method)) {
            return -1;
        }
        int deepest = 0;
        for (String callee : calls.getOrDefault(method, Set.of())) {
            int depth = depthFrom(callee, open);
            if (depth < 0) {
                return -1;
            }
            deepest = Math.max(deepest, depth);
        }
        open.remove(method);
        return deepest + 1;
    }

    private final class Reader extends TreePathScanner<Void, Void> {
        private final CompilationUnitTree unit;
        private MethodTree method;
        private String name = "";

        Reader(CompilationUnitTree unit) {
            this.unit = unit;
        }

        @Override
        public Void visitClass(ClassTree tree, Void nothing) {
            if (method != null || tree.getSimpleName().isEmpty()) {
                classesInMethods.add(name + " " + tree.getSimpleName());
            }
            return super.visitClass(tree, nothing);
        }

        @Override
        public Void visitMethod(MethodTree tree, Void nothing) {
            method = tree;
            name = nameOf(trees.getElement(getCurrentPath()));
            calls.putIfAbsent(name, new TreeSet<>());
            if (tree.getModifiers().getFlags().contains(Modifier.PUBLIC)) {
                publicMethods.add(name);
            }
            lines.merge(name, (int) (line(positions.getEndPosition(unit, tree))
                - line(positions.getStartPosition(unit, tree))) + 1, Math::max);
            super.visitMethod(tree, nothing);
            method = null;
            name = "";
            return null;
        }

        @Override
        public Void visitVariable(VariableTree tree, Void nothing) {
            types.add(trees.getTypeMirror(new TreePath(getCurrentPath(), tree.getType())).toString());
            return super.visitVariable(tree, nothing);
        }

        @Override
        public Void visitMethodInvocation(MethodInvocationTree tree, Void nothing) {
            Element callee = trees.getElement(new TreePath(getCurrentPath(), tree.getMethodSelect()));
            boolean isOfClassAbove = callee.getSimpleName().contentEquals("<init>");
            if (!isOfClassAbove) {
                called(callee);
            }
            return super.visitMethodInvocation(tree, nothing);
        }

        @Override
        public Void visitNewClass(NewClassTree tree, Void nothing) {
            called(trees.getElement(getCurrentPath()));
            made(tree);
            return super.visitNewClass(tree, nothing);
        }

        @Override
        public Void visitNewArray(NewArrayTree tree, Void nothing) {
            made(tree);
            return super.visitNewArray(tree, nothing);
        }

        private void called(Element callee) {
            calls.computeIfAbsent(name, key -> new TreeSet<>()).add(nameOf(callee));
            if (!isOwn(callee)) {
                libraryCalls.add(nameOf(callee));
            }
        }

        private void made(Tree tree) {
            if (method != null && method.getReturnType() != null) {
                madeByCalls.add(name + ": " + tree);
            }
        }

        @Override
        public Void visitForLoop(ForLoopTree tree, Void nothing) {
            if (tree.getCondition() == null || tree.getUpdate().isEmpty()) {
                loopsWithoutBound.add(name + ": for");
            }
            return super.visitForLoop(tree, nothing);
        }

        @Override
        public Void visitWhileLoop(WhileLoopTree tree, Void nothing) {
            loopsWithoutBound.add(name + ": while " + tree.getCondition());
            return super.visitWhileLoop(tree, nothing);
        }

        @Override
        public Void visitDoWhileLoop(DoWhileLoopTree tree, Void nothing) {
            loopsWithoutBound.add(name + ": do while " + tree.getCondition());
            return super.visitDoWhileLoop(tree, nothing);
        }

        @Override
        public Void visitBinary(BinaryTree tree, Void nothing) {
            if (tree.getKind() == Tree.Kind.DIVIDE || tree.getKind() == Tree.Kind.REMAINDER) {
                divisor(tree.getRightOperand());
            }
            return super.visitBinary(tree, nothing);
        }

        @Override
        public Void visitCompoundAssignment(CompoundAssignmentTree tree, Void nothing) {
            Tree.Kind kind = tree.getKind();
            if (kind == Tree.Kind.DIVIDE_ASSIGNMENT || kind == Tree.Kind.REMAINDER_ASSIGNMENT) {
                divisor(tree.getExpression());
            }
            return super.visitCompoundAssignment(tree, nothing);
        }

        private void divisor(Tree tree) {
            boolean isNumber = tree.getKind() == Tree.Kind.INT_LITERAL && !tree.toString().equals("0");
            boolean isTested = method != null && method.getBody().toString().contains(tree + " < 1 ||");
            if (!isNumber && !isTested) {
                divisorsNotTested.add(name + ": " + tree);
            }
        }

        @Override
        public Void visitIdentifier(IdentifierTree tree, Void nothing) {
            boolean isSelected = getCurrentPath().getParentPath().getLeaf() instanceof MemberSelectTree;
            if (tree.getName().contentEquals("this") && !isSelected) {
                handedOut.add(name);
            }
            return super.visitIdentifier(tree, nothing);
        }

        private long line(long position) {
            return unit.getLineMap().getLineNumber(position);
        }

        private boolean isOwn(Element element) {
            Element owner = element;
            while (owner.getEnclosingElement().getKind() != ElementKind.PACKAGE) {
                owner = owner.getEnclosingElement();
            }
            return owner.getSimpleName().contentEquals("ExternalSort");
        }

        private String nameOf(Element element) {
            return element.getEnclosingElement() + "." + element.getSimpleName();
        }
    }
}
