import com.sun.source.tree.ArrayAccessTree;
import com.sun.source.tree.AssertTree;
import com.sun.source.tree.BinaryTree;
import com.sun.source.tree.BlockTree;
import com.sun.source.tree.ClassTree;
import com.sun.source.tree.CompilationUnitTree;
import com.sun.source.tree.CompoundAssignmentTree;
import com.sun.source.tree.DoWhileLoopTree;
import com.sun.source.tree.ExpressionTree;
import com.sun.source.tree.ForLoopTree;
import com.sun.source.tree.InstanceOfTree;
import com.sun.source.tree.LambdaExpressionTree;
import com.sun.source.tree.LiteralTree;
import com.sun.source.tree.MemberReferenceTree;
import com.sun.source.tree.MethodInvocationTree;
import com.sun.source.tree.MethodTree;
import com.sun.source.tree.NewArrayTree;
import com.sun.source.tree.NewClassTree;
import com.sun.source.tree.ParenthesizedTree;
import com.sun.source.tree.SwitchExpressionTree;
import com.sun.source.tree.SwitchTree;
import com.sun.source.tree.SynchronizedTree;
import com.sun.source.tree.ThrowTree;
import com.sun.source.tree.Tree;
import com.sun.source.tree.TryTree;
import com.sun.source.tree.TypeCastTree;
import com.sun.source.tree.VariableTree;
import com.sun.source.tree.WhileLoopTree;
import com.sun.source.util.JavacTask;
import com.sun.source.util.TreePath;
import com.sun.source.util.TreePathScanner;
import com.sun.source.util.Trees;
import java.io.IOException;
import java.nio.file.Files;
import java.nio.file.Path;
import java.util.ArrayList;
import java.util.HashSet;
import java.util.LinkedHashMap;
import java.util.LinkedHashSet;
import java.util.List;
import java.util.Map;
import java.util.Set;
import javax.lang.model.element.Element;
import javax.lang.model.element.ElementKind;
import javax.lang.model.element.ExecutableElement;
import javax.lang.model.element.Modifier;
import javax.lang.model.element.TypeElement;
import javax.lang.model.element.VariableElement;
import javax.lang.model.type.ArrayType;
import javax.lang.model.type.DeclaredType;
import javax.lang.model.type.TypeMirror;
import javax.tools.JavaCompiler;
import javax.tools.StandardJavaFileManager;
import javax.tools.ToolProvider;

/**
 * LANGUAGE.md, rule by rule, as far as it can be seen from the program's own tree. Rules 3 and 4 are kept more narrowly
 * than they are told: the program uses no more than what is named here.
 */
public final class LanguageTest extends TreePathScanner<Void, Void> {
    private static final Path PROGRAM = Path.of("src/main/java/LevelGone.java");

    /** Rule 4: what the program uses of the library; all of it stands in the rule's list. */
    private static final Set<String> LIBRARY = Set.of("java.lang.Math.abs(int)", "java.lang.Math.max(int,int)",
            "java.lang.Math.min(int,int)", "java.lang.Integer.compare(int,int)", "java.lang.Integer.bitCount(int)",
            "java.lang.String.length()", "java.lang.String.charAt(int)",
            "java.lang.System.arraycopy(java.lang.Object,int,java.lang.Object,int,int)");

    /** Rule 7: who touches rows by an index, behind a look at it, or by a counter against the row's length. */
    private static final Set<String> BY_INDEX = Set.of("LevelGone()", "imageAt", "Rows.at", "Rows.put", "Rows.empty",
            "Town()", "Town.pastAt", "Town.dropOldest");

    /** Rule 7: who divides by what is no constant, behind a look at it. */
    private static final Set<String> BY_DIVISOR = Set.of("setFraction", "commonDivisor", "Planner.takesKinds");

    /** Rule 9: loops that are not counted by a for; each counts against a bound in its own lines. */
    private static final Set<String> BY_WHILE = Set.of("Text.behindRun");

    /** Rule 8: who may call itself; the depth is its argument. */
    private static final Set<String> BY_ITSELF = Set.of("Planner.choose");

    private final Trees trees;
    private final CompilationUnitTree unit;
    private final Map<Element, String> methods = new LinkedHashMap<>();
    private final Map<Element, Set<Element>> calls = new LinkedHashMap<>();
    private int classes;

    private LanguageTest(Trees trees, CompilationUnitTree unit) {
        this.trees = trees;
        this.unit = unit;
    }

    // ---- where one is

    private static <T extends Tree> TreePath above(TreePath path, Class<T> kind) {
        TreePath at = path;
        while (at != null && !kind.isInstance(at.getLeaf())) {
            at = at.getParentPath();
        }
        return at;
    }

    private Element element(Tree tree) {
        return trees.getElement(new TreePath(getCurrentPath(), tree));
    }

    private TypeMirror type(Tree tree) {
        return trees.getTypeMirror(new TreePath(getCurrentPath(), tree));
    }

    private static String named(Element method) {
        String owner = method.getEnclosingElement().getSimpleName().toString();
        if (method.getKind() == ElementKind.CONSTRUCTOR) {
            return owner + "()";
        }
        return owner.equals("LevelGone") ? method.getSimpleName().toString() : owner + "." + method.getSimpleName();
    }

    /** The method or constructor that one is in; "fields" where one is in none. */
    private String place() {
        TreePath method = above(getCurrentPath(), MethodTree.class);
        return method == null ? "fields" : named(trees.getElement(method));
    }

    private void rule(int number, String what, boolean holds) {
        Due.that("rule " + number + ", in " + place() + ": " + what, holds);
    }

    private static boolean isOwn(Element element) {
        Element at = element;
        while (at != null && at.getKind() != ElementKind.PACKAGE) {
            if (at.getSimpleName().contentEquals("LevelGone")) {
                return true;
            }
            at = at.getEnclosingElement();
        }
        return false;
    }

    private static boolean isOfOwnClass(TypeMirror type) {
        return type instanceof DeclaredType && isOwn(((DeclaredType) type).asElement());
    }

    // ---- rules 1, 2, 5, 11: classes and fields

    @Override
    public Void visitClass(ClassTree tree, Void none) {
        classes++;
        TypeElement own = (TypeElement) trees.getElement(getCurrentPath());
        boolean outer = getCurrentPath().getParentPath().getLeaf() == unit;
        Tree around = getCurrentPath().getParentPath().getLeaf();
        rule(2, own + " is a class inside the one class", outer || around instanceof ClassTree);
        rule(2, own + " is static", outer || own.getModifiers().contains(Modifier.STATIC));
        rule(1, own + " is public and final, those inside it are not public", outer
                ? own.getModifiers().containsAll(Set.of(Modifier.PUBLIC, Modifier.FINAL))
                : !own.getModifiers().contains(Modifier.PUBLIC) && !own.getModifiers().contains(Modifier.PROTECTED));
        int fields = 0;
        for (Tree member : tree.getMembers()) {
            rule(5, "no initialiser block", !(member instanceof BlockTree));
            if (member instanceof VariableTree && !field((VariableTree) member)) {
                fields++;
            }
        }
        rule(11, own + " has some twenty fields: " + fields, fields <= 20);
        return super.visitClass(tree, none);
    }

    /** Whether a field is static; then it is a constant. */
    private boolean field(VariableTree tree) {
        VariableElement field = (VariableElement) element(tree);
        boolean isStatic = field.getModifiers().contains(Modifier.STATIC);
        rule(5, field + " is a constant", !isStatic || field.getConstantValue() != null);
        return isStatic;
    }

    // ---- rule 3: types

    @Override
    public Void visitVariable(VariableTree tree, Void none) {
        rule(3, tree.getName() + " is of a type that is told", isTold(type(tree.getType())));
        return super.visitVariable(tree, none);
    }

    private static boolean isTold(TypeMirror type) {
        if (type instanceof ArrayType) {
            TypeMirror of = ((ArrayType) type).getComponentType();
            return of.getKind().isPrimitive() || isOfOwnClass(of);
        }
        boolean whole = type.getKind().isPrimitive() && !Set.of("double", "float").contains(type.toString());
        return whole || isOfOwnClass(type) || type.toString().equals("java.lang.String");
    }

    // ---- methods: rules 3, 6, 11

    @Override
    public Void visitMethod(MethodTree tree, Void none) {
        Element method = trees.getElement(getCurrentPath());
        methods.put(method, named(method));
        calls.put(method, new LinkedHashSet<>());
        if (tree.getReturnType() != null) {
            TypeMirror answer = type(tree.getReturnType());
            rule(3, "the answer is of a type that is told", answer.toString().equals("void") || isTold(answer));
        }
        String name = tree.getName().toString();
        rule(6, "no equals, hashCode, toString", !Set.of("equals", "hashCode", "toString").contains(name));
        rule(6, "throws nothing", tree.getThrows().isEmpty());
        rule(11, "seven parameters at most", tree.getParameters().size() <= 7);
        long lines = line(trees.getSourcePositions().getEndPosition(unit, tree))
                - line(trees.getSourcePositions().getStartPosition(unit, tree)) + 1;
        rule(11, "some sixty lines at most: " + lines, lines <= 60);
        return super.visitMethod(tree, none);
    }

    private long line(long position) {
        return unit.getLineMap().getLineNumber(position);
    }

    // ---- rules 4, 12: what is called and made

    @Override
    public Void visitMethodInvocation(MethodInvocationTree tree, Void none) {
        Element called = trees.getElement(getCurrentPath());
        if (isOwn(called)) {
            calls.get(trees.getElement(above(getCurrentPath(), MethodTree.class))).add(called);
        } else if (called.getKind() != ElementKind.CONSTRUCTOR) {
            String name = ((TypeElement) called.getEnclosingElement()).getQualifiedName() + "." + called;
            rule(4, name + " is of the library that is told", LIBRARY.contains(name));
        }
        return super.visitMethodInvocation(tree, none);
    }

    @Override
    public Void visitNewClass(NewClassTree tree, Void none) {
        rule(2, "no class without a name", tree.getClassBody() == null);
        rule(4, "objects of its own classes alone", isOwn(trees.getElement(getCurrentPath())));
        made();
        return super.visitNewClass(tree, none);
    }

    @Override
    public Void visitNewArray(NewArrayTree tree, Void none) {
        for (ExpressionTree length : tree.getDimensions()) {
            Long cells = constant(length);
            rule(7, "a row's length is a constant above 0", cells != null && cells > 0);
        }
        made();
        return super.visitNewArray(tree, none);
    }

    /** No call makes an object: rows and towns are made with the object itself. */
    private void made() {
        rule(12, "made by a constructor, or where a field is told", place().equals("fields") || place().endsWith("()"));
    }

    // ---- rules 2, 6, 10: what is not of the language

    @Override
    public Void visitLambdaExpression(LambdaExpressionTree tree, Void none) {
        rule(2, "no lambda", false);
        return null;
    }

    @Override
    public Void visitMemberReference(MemberReferenceTree tree, Void none) {
        rule(2, "no method reference", false);
        return null;
    }

    @Override
    public Void visitThrow(ThrowTree tree, Void none) {
        rule(6, "no throw", false);
        return null;
    }

    @Override
    public Void visitTry(TryTree tree, Void none) {
        rule(6, "no try", false);
        return null;
    }

    @Override
    public Void visitSynchronized(SynchronizedTree tree, Void none) {
        rule(6, "no synchronized", false);
        return null;
    }

    @Override
    public Void visitAssert(AssertTree tree, Void none) {
        rule(6, "no assert", false);
        return null;
    }

    @Override
    public Void visitInstanceOf(InstanceOfTree tree, Void none) {
        rule(6, "no instanceof: no class of its own is under another", false);
        return null;
    }

    @Override
    public Void visitTypeCast(TypeCastTree tree, Void none) {
        rule(6, "casts of numbers alone", type(tree.getType()).getKind().isPrimitive()
                && type(tree.getExpression()).getKind().isPrimitive());
        return super.visitTypeCast(tree, none);
    }

    @Override
    public Void visitBinary(BinaryTree tree, Void none) {
        boolean text = isText(tree.getLeftOperand()) || isText(tree.getRightOperand());
        rule(6, "no == between texts, and (rule 10) no text joined by +", !text);
        if (tree.getKind() == Tree.Kind.DIVIDE || tree.getKind() == Tree.Kind.REMAINDER) {
            divided(tree.getRightOperand());
        }
        return super.visitBinary(tree, none);
    }

    @Override
    public Void visitSwitch(SwitchTree tree, Void none) {
        rule(10, "switch on numbers alone", type(tree.getExpression()).getKind().isPrimitive());
        return super.visitSwitch(tree, none);
    }

    @Override
    public Void visitSwitchExpression(SwitchExpressionTree tree, Void none) {
        rule(10, "switch on numbers alone", type(tree.getExpression()).getKind().isPrimitive());
        return super.visitSwitchExpression(tree, none);
    }

    private boolean isText(ExpressionTree tree) {
        return type(tree).toString().equals("java.lang.String");
    }

    // ---- rule 7: no call may ever throw

    @Override
    public Void visitArrayAccess(ArrayAccessTree tree, Void none) {
        rule(7, "a row is touched behind a look at its length", BY_INDEX.contains(place()));
        return super.visitArrayAccess(tree, none);
    }

    @Override
    public Void visitCompoundAssignment(CompoundAssignmentTree tree, Void none) {
        boolean divides = tree.getKind() == Tree.Kind.DIVIDE_ASSIGNMENT
                || tree.getKind() == Tree.Kind.REMAINDER_ASSIGNMENT;
        if (divides) {
            divided(tree.getExpression());
        }
        return super.visitCompoundAssignment(tree, none);
    }

    private void divided(ExpressionTree divisor) {
        Long number = constant(divisor);
        rule(7, "divided by a constant that is not 0, or behind a look at it",
                number != null ? number != 0 : BY_DIVISOR.contains(place()));
    }

    /** A number that is told in the text, or a constant's; null where it is none, or more than one. */
    private Long constant(ExpressionTree tree) {
        if (tree instanceof ParenthesizedTree) {
            return constant(((ParenthesizedTree) tree).getExpression());
        }
        if (tree instanceof BinaryTree && tree.getKind() == Tree.Kind.MULTIPLY) {
            Long left = constant(((BinaryTree) tree).getLeftOperand());
            Long right = constant(((BinaryTree) tree).getRightOperand());
            return left == null || right == null ? null : Long.valueOf(left * right);
        }
        Object value = tree instanceof LiteralTree ? ((LiteralTree) tree).getValue() : null;
        if (value == null && element(tree) instanceof VariableElement) {
            value = ((VariableElement) element(tree)).getConstantValue();
        }
        return value instanceof Number ? Long.valueOf(((Number) value).longValue()) : null;
    }

    // ---- rule 9: loops

    @Override
    public Void visitForLoop(ForLoopTree tree, Void none) {
        rule(9, "a for has a start, a bound and a step", !tree.getInitializer().isEmpty()
                && tree.getCondition() != null && !tree.getUpdate().isEmpty());
        return super.visitForLoop(tree, none);
    }

    @Override
    public Void visitWhileLoop(WhileLoopTree tree, Void none) {
        rule(9, "a while that counts against a bound", BY_WHILE.contains(place()));
        return super.visitWhileLoop(tree, none);
    }

    @Override
    public Void visitDoWhileLoop(DoWhileLoopTree tree, Void none) {
        rule(9, "no do", false);
        return super.visitDoWhileLoop(tree, none);
    }

    // ---- rules 8, 11: how deep calls go

    /** How many calls stand open at once from this one on, itself counted; rule 8's turns count as one. */
    private int depth(Element method, Set<Element> open) {
        int deepest = 0;
        open.add(method);
        for (Element called : calls.getOrDefault(method, Set.of())) {
            if (open.contains(called)) {
                Due.that("rule 8: " + named(method) + " calls " + named(called) + " anew",
                        called == method && BY_ITSELF.contains(named(method)));
            } else {
                deepest = Math.max(deepest, depth(called, open));
            }
        }
        open.remove(method);
        return deepest + 1;
    }

    private void whole() throws IOException {
        Due.that("rule 1: no package, nothing imported", unit.getPackage() == null && unit.getImports().isEmpty());
        Due.is("rule 1: one class", unit.getTypeDecls().size(), 1);
        Due.that("rule 11: some twelve classes: " + classes, classes <= 12);
        for (Element method : methods.keySet()) {
            int depth = depth(method, new HashSet<>());
            Due.that("rule 11: " + named(method) + " goes " + depth + " deep", depth <= 8);
        }
        for (byte sign : Files.readAllBytes(PROGRAM)) {
            if (sign < 1) {
                Due.that("rule 4: signs are 1 to 127", false);
            }
        }
    }

    public static void main(String[] args) throws IOException {
        JavaCompiler compiler = ToolProvider.getSystemJavaCompiler();
        try (StandardJavaFileManager files = compiler.getStandardFileManager(null, null, null)) {
            JavacTask task = (JavacTask) compiler.getTask(null, files, null, List.of("-proc:none"), null,
                    files.getJavaFileObjects(PROGRAM));
            List<CompilationUnitTree> units = new ArrayList<>();
            task.parse().forEach(units::add);
            task.analyze();
            LanguageTest seen = new LanguageTest(Trees.instance(task), units.get(0));
            seen.scan(units.get(0), null);
            seen.whole();
        }
        Due.end();
    }
}
