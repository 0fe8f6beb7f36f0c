import com.sun.source.tree.ArrayAccessTree;
import com.sun.source.tree.AssertTree;
import com.sun.source.tree.BinaryTree;
import com.sun.source.tree.BlockTree;
import com.sun.source.tree.ClassTree;
import com.sun.source.tree.CompilationUnitTree;
import com.sun.source.tree.CompoundAssignmentTree;
import com.sun.source.tree.ExpressionTree;
import com.sun.source.tree.ImportTree;
import com.sun.source.tree.LambdaExpressionTree;
import com.sun.source.tree.LiteralTree;
import com.sun.source.tree.MemberReferenceTree;
import com.sun.source.tree.MethodInvocationTree;
import com.sun.source.tree.MethodTree;
import com.sun.source.tree.NewClassTree;
import com.sun.source.tree.PackageTree;
import com.sun.source.tree.SynchronizedTree;
import com.sun.source.tree.ThrowTree;
import com.sun.source.tree.Tree;
import com.sun.source.tree.TryTree;
import com.sun.source.tree.TypeCastTree;
import com.sun.source.tree.VariableTree;
import com.sun.source.tree.WhileLoopTree;
import com.sun.source.util.JavacTask;
import com.sun.source.util.TreePath;
import com.sun.source.util.TreePathScanner;
import com.sun.source.util.Trees;
import java.nio.file.Files;
import java.nio.file.Path;
import java.util.ArrayList;
import java.util.HashMap;
import java.util.LinkedHashSet;
import java.util.List;
import java.util.Map;
import java.util.Set;
import javax.lang.model.element.Element;
import javax.lang.model.element.ElementKind;
import javax.lang.model.element.Modifier;
import javax.lang.model.type.TypeKind;
import javax.tools.JavaCompiler;
import javax.tools.StandardJavaFileManager;
import javax.tools.ToolProvider;

/** What the compiler's tree of the file shows of ../shared/LANGUAGE.md: who calls whom, what is thrown and made. */
public final class LanguageTests {
    private static final Path SOURCE = Path.of("src/main/java/LearnedIndex.java");
    private static final int DEEPEST = 8;
    private static final int MOST_LINES = 60;
    private static final int MOST_PARAMETERS = 7;
    private static final int MOST_CLASSES = 12;
    private static final int MOST_FIELDS = 20;
    private static final String IMPORT = "java.util.NoSuchElementException";
    private static final Set<String> LIBRARY = Set.of("java.lang.Math.min", "java.lang.Math.max",
        "java.lang.Math.abs", "java.lang.Math.floorDiv", "java.lang.Long.bitCount");
    private static final Set<String> EXCEPTIONS = Set.of("IllegalStateException", "IllegalArgumentException",
        "IndexOutOfBoundsException", "ArithmeticException", "UnsupportedOperationException",
        "NoSuchElementException", "RuntimeException");
    // Each of these tests its divisor before it divides, or divides by a constant.
    private static final Set<String> DIVIDING = Set.of("meanWindow", "meanProbes", "reduce", "probe", "pageOf");
    // The one method that reads a row and the one that writes it look at the index first.
    private static final Set<String> INDEXING = Set.of("cell", "store");
    private static int wrong = 0;

    private static void fault(String rule, String what) {
        wrong++;
        System.out.println("LANGUAGE.md, rule " + rule + ": " + what);
    }

    /** Notes the calls of each method, and tells what a rule forbids. */
    private static final class Scan extends TreePathScanner<Void, Void> {
        final Map<Element, Set<Element>> calls = new HashMap<>();
        private final Trees trees;
        private int classes = 0;
        private Element method;

        Scan(Trees trees) {
            this.trees = trees;
        }

        private void forbid(String rule, Tree tree, boolean isForbidden) {
            if (isForbidden) {
                fault(rule, "\"" + tree + "\"" + (method == null ? "" : " in " + method));
            }
        }

        private boolean isOwn(Element e) {
            return trees.getPath(e) != null;
        }

        private void noteCall(Element callee) {
            calls.computeIfAbsent(method, key -> new LinkedHashSet<>()).add(callee);
        }

        /** The initialisers of fields belong to the constructor. */
        private boolean isConstructing() {
            return method == null || method.getKind() == ElementKind.CONSTRUCTOR;
        }

        private boolean isInOneOf(Set<String> methods) {
            return method != null && methods.contains(method.getSimpleName().toString());
        }

        @Override
        public Void visitPackage(PackageTree tree, Void none) {
            forbid("1", tree, true);
            return super.visitPackage(tree, none);
        }

        @Override
        public Void visitImport(ImportTree tree, Void none) {
            forbid("4", tree, tree.isStatic() || !tree.getQualifiedIdentifier().toString().equals(IMPORT));
            return super.visitImport(tree, none);
        }

        @Override
        public Void visitClass(ClassTree tree, Void none) {
            Element e = trees.getElement(getCurrentPath());
            boolean isOuter = getCurrentPath().getParentPath().getLeaf() instanceof CompilationUnitTree;
            classes++;
            int fields = 0;
            for (Element member : e.getEnclosedElements()) {
                boolean isStatic = member.getModifiers().contains(Modifier.STATIC);
                fields += member.getKind() == ElementKind.FIELD && !isStatic ? 1 : 0;
            }
            if (fields > MOST_FIELDS || classes > MOST_CLASSES) {
                fault("11", e + " has " + fields + " fields and is class " + classes);
            }
            if (!isOuter && !e.getModifiers().contains(Modifier.STATIC)) {
                fault("1", e + " is not static");
            }
            return super.visitClass(tree, none);
        }

        @Override
        public Void visitMethod(MethodTree tree, Void none) {
            method = trees.getElement(getCurrentPath());
            calls.computeIfAbsent(method, key -> new LinkedHashSet<>());
            if (linesOf(tree) > MOST_LINES || tree.getParameters().size() > MOST_PARAMETERS) {
                fault("11", method + " has " + linesOf(tree) + " lines");
            }
            super.visitMethod(tree, none);
            method = null;
            return none;
        }

        private long linesOf(MethodTree tree) {
            CompilationUnitTree unit = getCurrentPath().getCompilationUnit();
            long start = trees.getSourcePositions().getStartPosition(unit, tree);
            long end = trees.getSourcePositions().getEndPosition(unit, tree);
            // The constructors that the compiler adds have no end.
            return end < 0 ? 0 : unit.getLineMap().getLineNumber(end) - unit.getLineMap().getLineNumber(start) + 1;
        }

        @Override
        public Void visitVariable(VariableTree tree, Void none) {
            Element e = trees.getElement(getCurrentPath());
            if (e.getKind() == ElementKind.FIELD) {
                boolean isStatic = e.getModifiers().contains(Modifier.STATIC);
                forbid("1", tree, !e.getModifiers().contains(Modifier.PRIVATE));
                forbid("5", tree, isStatic && !e.getModifiers().contains(Modifier.FINAL));
            }
            return super.visitVariable(tree, none);
        }

        @Override
        public Void visitBlock(BlockTree tree, Void none) {
            forbid("5", tree, getCurrentPath().getParentPath().getLeaf() instanceof ClassTree);
            return super.visitBlock(tree, none);
        }

        @Override
        public Void visitMethodInvocation(MethodInvocationTree tree, Void none) {
            Element callee = trees.getElement(new TreePath(getCurrentPath(), tree.getMethodSelect()));
            if (isOwn(callee)) {
                noteCall(callee);
            } else {
                String name = callee.getEnclosingElement() + "." + callee.getSimpleName();
                boolean isSuper = tree.getMethodSelect().toString().equals("super");
                forbid("4", tree, !isSuper && !LIBRARY.contains(name));
            }
            return super.visitMethodInvocation(tree, none);
        }

        @Override
        public Void visitNewClass(NewClassTree tree, Void none) {
            Element made = trees.getElement(getCurrentPath());
            boolean isThrown = getCurrentPath().getParentPath().getLeaf() instanceof ThrowTree;
            if (isOwn(made)) {
                noteCall(made);
            }
            forbid("4", tree, !isOwn(made) && !isThrown);
            // All calls share one room, so that this class makes its objects in constructors alone.
            forbid("12", tree, !isThrown && !isConstructing());
            return super.visitNewClass(tree, none);
        }

        @Override
        public Void visitThrow(ThrowTree tree, Void none) {
            boolean isPlain = tree.getExpression() instanceof NewClassTree made
                && EXCEPTIONS.contains(made.getIdentifier().toString()) && isText(made.getArguments());
            forbid("6", tree, !isPlain || isConstructing());
            return super.visitThrow(tree, none);
        }

        private static boolean isText(List<? extends ExpressionTree> arguments) {
            return arguments.isEmpty() || arguments.size() == 1 && arguments.get(0) instanceof LiteralTree;
        }

        @Override
        public Void visitTry(TryTree tree, Void none) {
            forbid("6", tree, true);
            return super.visitTry(tree, none);
        }

        @Override
        public Void visitSynchronized(SynchronizedTree tree, Void none) {
            forbid("6", tree, true);
            return super.visitSynchronized(tree, none);
        }

        @Override
        public Void visitAssert(AssertTree tree, Void none) {
            forbid("6", tree, true);
            return super.visitAssert(tree, none);
        }

        @Override
        public Void visitLambdaExpression(LambdaExpressionTree tree, Void none) {
            forbid("2", tree, true);
            return super.visitLambdaExpression(tree, none);
        }

        @Override
        public Void visitMemberReference(MemberReferenceTree tree, Void none) {
            forbid("2", tree, true);
            return super.visitMemberReference(tree, none);
        }

        @Override
        public Void visitTypeCast(TypeCastTree tree, Void none) {
            TreePath type = new TreePath(getCurrentPath(), tree.getType());
            forbid("7", tree, !trees.getTypeMirror(type).getKind().isPrimitive());
            return super.visitTypeCast(tree, none);
        }

        @Override
        public Void visitArrayAccess(ArrayAccessTree tree, Void none) {
            forbid("7", tree, !isInOneOf(INDEXING));
            return super.visitArrayAccess(tree, none);
        }

        @Override
        public Void visitBinary(BinaryTree tree, Void none) {
            boolean isDivision = tree.getKind() == Tree.Kind.DIVIDE || tree.getKind() == Tree.Kind.REMAINDER;
            forbid("7", tree, isDivision && !isInOneOf(DIVIDING));
            forbid("10", tree, trees.getTypeMirror(getCurrentPath()).getKind() == TypeKind.DECLARED);
            return super.visitBinary(tree, none);
        }

        @Override
        public Void visitCompoundAssignment(CompoundAssignmentTree tree, Void none) {
            boolean isDivision = tree.getKind() == Tree.Kind.DIVIDE_ASSIGNMENT
                || tree.getKind() == Tree.Kind.REMAINDER_ASSIGNMENT;
            forbid("7", tree, isDivision && !isInOneOf(DIVIDING));
            return super.visitCompoundAssignment(tree, none);
        }

        @Override
        public Void visitWhileLoop(WhileLoopTree tree, Void none) {
            forbid("9", tree, tree.getCondition().toString().equals("(true)"));
            return super.visitWhileLoop(tree, none);
        }
    }

    /** The greatest number of calls open at once from a method on, which counts as one. */
    private static int depth(Map<Element, Set<Element>> calls, Element method, List<Element> open) {
        if (open.contains(method)) {
            fault("8", method + " calls itself, by " + open);
            return 0;
        }
        List<Element> longer = new ArrayList<>(open);
        longer.add(method);
        int deepest = 0;
        for (Element callee : calls.getOrDefault(method, Set.of())) {
            deepest = Math.max(deepest, depth(calls, callee, longer));
        }
        return deepest + 1;
    }

    private static void checkDepths(Map<Element, Set<Element>> calls) {
        if (calls.isEmpty()) {
            fault("11", "no method was found");
        }
        for (Element method : calls.keySet()) {
            int depth = depth(calls, method, new ArrayList<>());
            if (depth > DEEPEST) {
                fault("11", method + " goes " + depth + " calls deep");
            }
        }
    }

    private static void checkSigns() throws Exception {
        for (char sign : Files.readString(SOURCE).toCharArray()) {
            if (sign > 126 || sign == '\t') {
                fault("4", "the file holds the sign " + (int) sign);
            }
        }
    }

    private static Scan scan() throws Exception {
        JavaCompiler compiler = ToolProvider.getSystemJavaCompiler();
        try (StandardJavaFileManager files = compiler.getStandardFileManager(null, null, null)) {
            JavacTask task = (JavacTask) compiler.getTask(null, files, null, List.of("-proc:none"), null,
                files.getJavaFileObjects(SOURCE));
            Iterable<? extends CompilationUnitTree> units = task.parse();
            task.analyze();
            Scan scan = new Scan(Trees.instance(task));
            scan.scan(units, null);
            return scan;
        }
    }

    public static void main(String[] args) throws Exception {
        checkDepths(scan().calls);
        checkSigns();
        System.out.println(wrong == 0 ? "the language is as due" : wrong + " faults");
        System.exit(wrong == 0 ? 0 : 1);
    }
}
