import com.sun.source.tree.ArrayAccessTree;
import com.sun.source.tree.AssignmentTree;
import com.sun.source.tree.BinaryTree;
import com.sun.source.tree.BlockTree;
import com.sun.source.tree.ClassTree;
import com.sun.source.tree.CompilationUnitTree;
import com.sun.source.tree.CompoundAssignmentTree;
import com.sun.source.tree.ExpressionTree;
import com.sun.source.tree.ForLoopTree;
import com.sun.source.tree.LiteralTree;
import com.sun.source.tree.MethodInvocationTree;
import com.sun.source.tree.MethodTree;
import com.sun.source.tree.NewArrayTree;
import com.sun.source.tree.NewClassTree;
import com.sun.source.tree.Tree;
import com.sun.source.tree.TypeCastTree;
import com.sun.source.tree.UnaryTree;
import com.sun.source.tree.VariableTree;
import com.sun.source.util.JavacTask;
import com.sun.source.util.TreePath;
import com.sun.source.util.TreePathScanner;
import com.sun.source.util.Trees;
import java.io.IOException;
import java.nio.file.Files;
import java.nio.file.Path;
import java.util.ArrayList;
import java.util.EnumSet;
import java.util.HashMap;
import java.util.HashSet;
import java.util.LinkedHashSet;
import java.util.List;
import java.util.Map;
import java.util.Set;
import javax.lang.model.element.Element;
import javax.lang.model.element.ElementKind;
import javax.lang.model.element.Modifier;
import javax.lang.model.type.ArrayType;
import javax.lang.model.type.TypeKind;
import javax.lang.model.type.TypeMirror;
import javax.tools.JavaCompiler;
import javax.tools.StandardJavaFileManager;
import javax.tools.ToolProvider;

/**
 * Reads the class with the compiler's own parser and holds every line against those rules of
 * LANGUAGE.md that its source can tell. It is stricter than they are where the class is: it makes
 * nothing in a call, doesn't recur, and has no loop but those with a counter.
 */
public final class RulesTest extends TreePathScanner<Void, Void> {
    private static final Checks CHECKS = new Checks("RulesTest");
    private static final String SOURCE = "src/main/java/BucketGift.java";
    private static final int MOST_DEPTH = 8;

    private static final Set<Tree.Kind> BARRED = EnumSet.of(
        Tree.Kind.THROW, Tree.Kind.TRY, Tree.Kind.CATCH, Tree.Kind.SYNCHRONIZED, Tree.Kind.ASSERT,
        Tree.Kind.LAMBDA_EXPRESSION, Tree.Kind.MEMBER_REFERENCE, Tree.Kind.WHILE_LOOP, Tree.Kind.DO_WHILE_LOOP,
        Tree.Kind.INSTANCE_OF, Tree.Kind.ANNOTATION);
    private static final Set<String> LIBRARY = Set.of(
        "java.lang.String.length", "java.lang.String.charAt", "java.lang.Integer.bitCount", "java.lang.Math.max",
        "java.lang.Math.min", "java.lang.System.arraycopy", "java.util.Arrays.fill", "java.lang.Object.<init>");
    private static final Set<TypeKind> NUMBERS = EnumSet.of(TypeKind.INT, TypeKind.LONG, TypeKind.BOOLEAN);
    private static final Set<TypeKind> ROWS = EnumSet.of(TypeKind.INT, TypeKind.LONG);

    private final Trees trees;
    private final CompilationUnitTree unit;
    private final Map<Element, Set<Element>> calls = new HashMap<>();
    private int methods = 0;
    private int loops = 0;
    private int classes = 0;

    private RulesTest(Trees trees, CompilationUnitTree unit) {
        this.trees = trees;
        this.unit = unit;
    }

    private void due(int rule, String what, Tree tree, boolean stands) {
        long line = unit.getLineMap().getLineNumber(trees.getSourcePositions().getStartPosition(unit, tree));
        CHECKS.due("rule " + rule + ", line " + line + ", " + what + ": " + tree, stands);
    }

    private Element elementOf(Tree tree) {
        return trees.getElement(new TreePath(getCurrentPath(), tree));
    }

    private TypeMirror typeOf(Tree tree) {
        return trees.getTypeMirror(new TreePath(getCurrentPath(), tree));
    }

    private static boolean isOwn(String type) {
        return type.equals("BucketGift") || type.startsWith("BucketGift.");
    }

    private static boolean isText(TypeMirror type) {
        return type != null && type.toString().equals("java.lang.String");
    }

    private boolean isInMethod() {
        for (TreePath p = getCurrentPath(); p != null; p = p.getParentPath()) {
            if (p.getLeaf() instanceof MethodTree m) {
                return !m.getName().contentEquals("<init>");
            }
        }
        return false;
    }

    private Element methodAround() {
        for (TreePath p = getCurrentPath(); p != null; p = p.getParentPath()) {
            if (p.getLeaf() instanceof MethodTree) {
                return trees.getElement(p);
            }
        }
        return null;
    }

    @Override
    public Void scan(Tree tree, Void none) {
        if (tree != null) {
            due(6, "is not barred", tree, !BARRED.contains(tree.getKind()));
        }
        return super.scan(tree, none);
    }

    @Override
    public Void visitClass(ClassTree tree, Void none) {
        classes++;
        Tree around = getCurrentPath().getParentPath().getLeaf();
        boolean isOuter = around instanceof CompilationUnitTree;
        due(2, "stands in the class itself", tree, isOuter || around instanceof ClassTree);
        due(2, "is static", tree, isOuter || tree.getModifiers().getFlags().contains(Modifier.STATIC));
        int fields = 0;
        for (Tree member : tree.getMembers()) {
            due(5, "is no initialiser block", member, !(member instanceof BlockTree));
            if (member instanceof VariableTree v && !v.getModifiers().getFlags().contains(Modifier.STATIC)) {
                fields++;
            }
        }
        CHECKS.due("rule 11: at most 20 fields has " + tree.getSimpleName(), fields <= 20);
        return super.visitClass(tree, none);
    }

    @Override
    public Void visitMethod(MethodTree tree, Void none) {
        methods++;
        due(11, "at most seven parameters", tree, tree.getParameters().size() <= 7);
        long from = trees.getSourcePositions().getStartPosition(unit, tree);
        long to = trees.getSourcePositions().getEndPosition(unit, tree);
        // A constructor that the compiler adds has no end in the source.
        if (to >= 0) {
            long many = unit.getLineMap().getLineNumber(to) - unit.getLineMap().getLineNumber(from) + 1;
            due(11, "at most sixty lines", tree, many <= 60);
        }
        calls.putIfAbsent(trees.getElement(getCurrentPath()), new LinkedHashSet<>());
        return super.visitMethod(tree, none);
    }

    @Override
    public Void visitVariable(VariableTree tree, Void none) {
        TypeMirror type = trees.getTypeMirror(getCurrentPath());
        boolean fits = NUMBERS.contains(type.getKind()) || isText(type) || isOwn(type.toString());
        if (type instanceof ArrayType row) {
            TypeMirror of = row.getComponentType();
            fits = ROWS.contains(of.getKind()) || isOwn(of.toString());
        }
        due(3, "is of a type that the rules leave", tree, fits);
        Set<Modifier> flags = tree.getModifiers().getFlags();
        if (flags.contains(Modifier.STATIC)) {
            due(5, "is final", tree, flags.contains(Modifier.FINAL));
            due(5, "is no object", tree, NUMBERS.contains(type.getKind()) || isText(type) || isWrittenOut(tree));
        }
        return super.visitVariable(tree, none);
    }

    private boolean isWrittenOut(VariableTree tree) {
        return tree.getInitializer() instanceof NewArrayTree row && row.getDimensions().isEmpty()
            && trees.getTypeMirror(getCurrentPath()) instanceof ArrayType type
            && ROWS.contains(type.getComponentType().getKind());
    }

    @Override
    public Void visitMethodInvocation(MethodInvocationTree tree, Void none) {
        Element called = elementOf(tree.getMethodSelect());
        if (called == null) {
            called = trees.getElement(getCurrentPath());
        }
        String owner = called.getEnclosingElement().toString();
        due(4, "is its own or of the listed library", tree,
            isOwn(owner) || LIBRARY.contains(owner + "." + called.getSimpleName()));
        Element around = methodAround();
        if (around != null) {
            calls.computeIfAbsent(around, a -> new LinkedHashSet<>()).add(called);
        }
        return super.visitMethodInvocation(tree, none);
    }

    @Override
    public Void visitNewClass(NewClassTree tree, Void none) {
        due(2, "is no anonymous class", tree, tree.getClassBody() == null);
        due(12, "is made with the object", tree, !isInMethod());
        due(4, "is of a class of its own", tree, isOwn(typeOf(tree.getIdentifier()).toString()));
        return super.visitNewClass(tree, none);
    }

    @Override
    public Void visitNewArray(NewArrayTree tree, Void none) {
        due(12, "is made with the object", tree, !isInMethod());
        due(3, "has one dimension", tree, tree.getDimensions().size() <= 1);
        for (ExpressionTree length : tree.getDimensions()) {
            due(7, "has a length that is a constant", tree, isConstant(length));
        }
        return super.visitNewArray(tree, none);
    }

    private boolean isConstant(ExpressionTree tree) {
        if (tree instanceof BinaryTree sum) {
            return isConstant(sum.getLeftOperand()) && isConstant(sum.getRightOperand());
        }
        Element named = tree instanceof LiteralTree ? null : elementOf(tree);
        return tree instanceof LiteralTree
            || named instanceof javax.lang.model.element.VariableElement v && v.getConstantValue() != null;
    }

    @Override
    public Void visitBinary(BinaryTree tree, Void none) {
        Tree.Kind kind = tree.getKind();
        if (kind == Tree.Kind.DIVIDE || kind == Tree.Kind.REMAINDER) {
            due(7, "has a divisor that isn't 0", tree,
                tree.getRightOperand() instanceof LiteralTree n && !Integer.valueOf(0).equals(n.getValue()));
        }
        boolean areTexts = isText(typeOf(tree.getLeftOperand())) || isText(typeOf(tree.getRightOperand()));
        due(10, "joins or compares no texts", tree, !areTexts);
        return super.visitBinary(tree, none);
    }

    @Override
    public Void visitTypeCast(TypeCastTree tree, Void none) {
        due(6, "is a cast of a number", tree, typeOf(tree.getType()).getKind().isPrimitive());
        return super.visitTypeCast(tree, none);
    }

    @Override
    public Void visitForLoop(ForLoopTree tree, Void none) {
        loops++;
        due(9, "has a counter", tree, tree.getInitializer().size() == 1);
        due(9, "has a bound", tree, tree.getCondition() != null && isBounded(tree.getCondition()));
        due(9, "counts", tree, tree.getUpdate().size() == 1);
        return super.visitForLoop(tree, none);
    }

    /** What is asked first compares the counter; more may be asked behind it. */
    private static boolean isBounded(ExpressionTree condition) {
        ExpressionTree first = condition;
        for (int i = 0; i < 10 && first instanceof BinaryTree b && b.getKind() == Tree.Kind.CONDITIONAL_AND; i++) {
            first = b.getLeftOperand();
        }
        return EnumSet.of(Tree.Kind.LESS_THAN, Tree.Kind.LESS_THAN_EQUAL, Tree.Kind.GREATER_THAN_EQUAL)
            .contains(first.getKind());
    }

    private void checkThatNoConstantChanges(Tree tree, ExpressionTree target) {
        if (target instanceof ArrayAccessTree access) {
            Element row = elementOf(access.getExpression());
            boolean isConstantRow = row != null && row.getKind() == ElementKind.FIELD
                && row.getModifiers().contains(Modifier.STATIC);
            due(5, "changes no constant row", tree, !isConstantRow);
        }
    }

    @Override
    public Void visitAssignment(AssignmentTree tree, Void none) {
        checkThatNoConstantChanges(tree, tree.getVariable());
        return super.visitAssignment(tree, none);
    }

    @Override
    public Void visitCompoundAssignment(CompoundAssignmentTree tree, Void none) {
        Tree.Kind kind = tree.getKind();
        due(7, "doesn't divide", tree,
            kind != Tree.Kind.DIVIDE_ASSIGNMENT && kind != Tree.Kind.REMAINDER_ASSIGNMENT);
        due(10, "joins no texts", tree, !isText(typeOf(tree.getVariable())));
        checkThatNoConstantChanges(tree, tree.getVariable());
        return super.visitCompoundAssignment(tree, none);
    }

    @Override
    public Void visitUnary(UnaryTree tree, Void none) {
        boolean changes = EnumSet.of(Tree.Kind.POSTFIX_INCREMENT, Tree.Kind.POSTFIX_DECREMENT,
            Tree.Kind.PREFIX_INCREMENT, Tree.Kind.PREFIX_DECREMENT).contains(tree.getKind());
        if (changes) {
            checkThatNoConstantChanges(tree, tree.getExpression());
        }
        return super.visitUnary(tree, none);
    }

    /** How deep calls go from a method on, itself counted; open ones are those on the way to it. */
    private int depth(Element method, Set<Element> open) {
        boolean isNew = open.add(method);
        CHECKS.due("rule 8: no recursion by " + method, isNew);
        int deepest = 0;
        if (isNew) {
            for (Element called : calls.getOrDefault(method, Set.of())) {
                deepest = Math.max(deepest, depth(called, open));
            }
            open.remove(method);
        }
        return deepest + 1;
    }

    private void checkDepths() {
        for (Element method : new ArrayList<>(calls.keySet())) {
            int depth = depth(method, new HashSet<>());
            CHECKS.due("rule 11: at most eight deep goes " + method + ", " + depth, depth <= MOST_DEPTH);
        }
    }

    private void checkHead() {
        CHECKS.due("no package line", unit.getPackageName() == null);
        CHECKS.due("one class on its own", unit.getTypeDecls().size(), 1);
        for (Tree line : unit.getImports()) {
            due(4, "is of the listed library", line, line.toString().trim().equals("import java.util.Arrays;"));
        }
    }

    private static void checkSigns() throws IOException {
        List<String> lines = Files.readAllLines(Path.of(SOURCE));
        for (int i = 0; i < lines.size(); i++) {
            CHECKS.due("rule 4: plain signs alone has line " + (i + 1), lines.get(i).matches("[\\x20-\\x7e]*"));
        }
    }

    public static void main(String[] args) throws IOException {
        checkSigns();
        JavaCompiler compiler = ToolProvider.getSystemJavaCompiler();
        try (StandardJavaFileManager files = compiler.getStandardFileManager(null, null, null)) {
            JavacTask task = (JavacTask) compiler.getTask(
                null, files, null, List.of("-proc:none"), null, files.getJavaFileObjects(Path.of(SOURCE)));
            CompilationUnitTree unit = task.parse().iterator().next();
            task.analyze();
            RulesTest test = new RulesTest(Trees.instance(task), unit);
            test.checkHead();
            test.scan(unit, null);
            CHECKS.due("rule 11: at most twelve classes, " + test.classes, test.classes <= 12);
            CHECKS.due("methods and loops were seen", test.methods > 38 && test.loops > 10);
            test.checkDepths();
        }
        CHECKS.end();
    }
}
