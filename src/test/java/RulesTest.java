import com.sun.source.tree.AssertTree;
import com.sun.source.tree.BinaryTree;
import com.sun.source.tree.BlockTree;
import com.sun.source.tree.ClassTree;
import com.sun.source.tree.CompilationUnitTree;
import com.sun.source.tree.CompoundAssignmentTree;
import com.sun.source.tree.DoWhileLoopTree;
import com.sun.source.tree.ExpressionTree;
import com.sun.source.tree.ForLoopTree;
import com.sun.source.tree.IdentifierTree;
import com.sun.source.tree.LambdaExpressionTree;
import com.sun.source.tree.LiteralTree;
import com.sun.source.tree.MemberReferenceTree;
import com.sun.source.tree.MethodInvocationTree;
import com.sun.source.tree.MethodTree;
import com.sun.source.tree.NewArrayTree;
import com.sun.source.tree.NewClassTree;
import com.sun.source.tree.SynchronizedTree;
import com.sun.source.tree.ThrowTree;
import com.sun.source.tree.Tree;
import com.sun.source.tree.TryTree;
import com.sun.source.tree.TypeCastTree;
import com.sun.source.tree.VariableTree;
import com.sun.source.tree.WhileLoopTree;
import com.sun.source.util.JavacTask;
import com.sun.source.util.SourcePositions;
import com.sun.source.util.TreePathScanner;
import com.sun.source.util.Trees;
import java.io.IOException;
import java.nio.file.Path;
import java.util.List;
import java.util.Map;
import java.util.Set;
import java.util.TreeMap;
import java.util.TreeSet;
import javax.lang.model.element.Element;
import javax.lang.model.element.ElementKind;
import javax.lang.model.element.Modifier;
import javax.lang.model.element.VariableElement;
import javax.lang.model.type.TypeKind;
import javax.lang.model.type.TypeMirror;
import javax.tools.JavaCompiler;
import javax.tools.StandardJavaFileManager;
import javax.tools.ToolProvider;

/** The rules of LANGUAGE.md that can be read off the class as the compiler reads it. */
public final class RulesTest extends TreePathScanner<Void, Void> {
    private static final Path SOURCE = Path.of("src/main/java/LeafTable.java");
    /** What the class calls and holds now is less than the rules leave; who needs more of it adds it here. */
    private static final Set<String> LIBRARY = Set.of("java.lang.Math.min", "java.lang.Math.max", "java.lang.Math.abs",
        "java.lang.Math.floorMod", "java.lang.Math.floorDiv", "java.lang.Integer.bitCount");
    private static final Set<String> TYPES = Set.of("int", "long", "boolean", "char");
    private static final Set<String> STATIC_TYPES = Set.of("int", "long", "boolean", "char", "java.lang.String",
        "int[]", "long[]", "char[]", "byte[]");
    private static final int LONGEST_METHOD = 60, MOST_CLASSES = 12, MOST_FIELDS = 20, MOST_PARAMETERS = 7;
    private static final int DEEPEST_CALLS = 8;

    private final Check check = new Check();
    private final Trees trees;
    private final SourcePositions positions;
    private final CompilationUnitTree unit;
    private final Map<String, Set<String>> calls = new TreeMap<>();
    private final Set<String> privateStatic = new TreeSet<>();
    private String method = "";
    private int classes;

    private RulesTest(Trees trees, CompilationUnitTree unit) {
        this.trees = trees;
        this.positions = trees.getSourcePositions();
        this.unit = unit;
    }

    public static void main(String[] args) throws IOException {
        JavaCompiler compiler = ToolProvider.getSystemJavaCompiler();
        try (StandardJavaFileManager files = compiler.getStandardFileManager(null, null, null)) {
            JavacTask task = (JavacTask) compiler.getTask(null, files, null, List.of("-proc:none"), null,
                files.getJavaFileObjects(SOURCE));
            CompilationUnitTree unit = task.parse().iterator().next();
            task.analyze();
            RulesTest rules = new RulesTest(Trees.instance(task), unit);
            rules.scan(unit, null);
            rules.end();
        }
    }

    private void end() {
        check.due("rule 11: classes are at most twelve", classes <= MOST_CLASSES ? 1 : 0, 1);
        check.due("the scan has seen the methods", calls.size() > 50 ? 1 : 0, 1);
        for (String each : calls.keySet()) {
            int depth = depthOf(each, new TreeSet<>());
            check.due("rule 11: calls from " + each + " go " + depth + " deep", depth <= DEEPEST_CALLS ? 1 : 0, 1);
        }
        check.end("RulesTest");
    }

    /** How many calls stand open below a method, its calls of itself set aside. */
    private int depthOf(String name, Set<String> open) {
        open.add(name);
        int deepest = 0;
        for (String called : calls.getOrDefault(name, Set.of())) {
            if (called.equals(name)) {
                forbid("rule 8: " + name + " calls itself, but is not private and static", !privateStatic.contains(name));
            } else if (open.contains(called)) {
                forbid("rule 8: " + name + " and " + called + " call one another", true);
            } else {
                deepest = Math.max(deepest, depthOf(called, open));
            }
        }
        open.remove(name);
        return deepest + 1;
    }

    private void forbid(String what, boolean isSo) {
        check.due(what, isSo ? 1 : 0, 0);
    }

    private void forbid(String what, Tree tree) {
        forbid("line " + lineOf(positions.getStartPosition(unit, tree)) + ": " + what, true);
    }

    private long lineOf(long position) {
        return unit.getLineMap().getLineNumber(position);
    }

    private Element element() {
        return trees.getElement(getCurrentPath());
    }

    private static String nameOf(Element element) {
        return element.getEnclosingElement() + "." + element.getSimpleName();
    }

    private static boolean isOwn(Element element) {
        return element.getEnclosingElement().toString().startsWith("LeafTable");
    }

    // ---- classes, fields, methods

    @Override
    public Void visitClass(ClassTree tree, Void none) {
        classes++;
        int fields = 0;
        for (Tree member : tree.getMembers()) {
            forbid("rule 5: no block of " + tree.getSimpleName(), member instanceof BlockTree);
            boolean isField = member instanceof VariableTree;
            fields += isField && !((VariableTree) member).getModifiers().getFlags().contains(Modifier.STATIC) ? 1 : 0;
        }
        check.due("rule 11: fields of " + tree.getSimpleName(), fields <= MOST_FIELDS ? 1 : 0, 1);
        return super.visitClass(tree, none);
    }

    @Override
    public Void visitMethod(MethodTree tree, Void none) {
        String outer = method;
        method = nameOf(element());
        calls.computeIfAbsent(method, name -> new TreeSet<>());
        if (tree.getModifiers().getFlags().containsAll(Set.of(Modifier.PRIVATE, Modifier.STATIC))) {
            privateStatic.add(method);
        }
        check.due("rule 11: parameters of " + method, tree.getParameters().size() <= MOST_PARAMETERS ? 1 : 0, 1);
        long lines = lineOf(positions.getEndPosition(unit, tree)) - lineOf(positions.getStartPosition(unit, tree)) + 1;
        check.due("rule 11: lines of " + method, lines <= LONGEST_METHOD ? 1 : 0, 1);
        super.visitMethod(tree, none);
        method = outer;
        return null;
    }

    @Override
    public Void visitVariable(VariableTree tree, Void none) {
        Element variable = element();
        String type = variable.asType().toString();
        if (variable.getKind() == ElementKind.FIELD && variable.getModifiers().contains(Modifier.STATIC)) {
            forbid("rule 5: " + tree.getName() + " is not final", !variable.getModifiers().contains(Modifier.FINAL));
            forbid("rule 5: " + tree.getName() + " is of " + type, !STATIC_TYPES.contains(type));
            boolean isArray = variable.asType().getKind() == TypeKind.ARRAY;
            boolean isWrittenOut = tree.getInitializer() instanceof NewArrayTree made && made.getInitializers() != null;
            forbid("rule 5: " + tree.getName() + " is not written out", isArray && !isWrittenOut);
        }
        String one = type.endsWith("[]") ? type.substring(0, type.length() - 2) : type;
        boolean isAllowed = one.startsWith("LeafTable") || TYPES.contains(one);
        forbid("rule 3: " + tree.getName() + " is of " + type, !isAllowed);
        return super.visitVariable(tree, none);
    }

    // ---- calls, objects

    @Override
    public Void visitMethodInvocation(MethodInvocationTree tree, Void none) {
        Element called = element();
        boolean isSuper = called.getKind() == ElementKind.CONSTRUCTOR;
        if (isOwn(called)) {
            calls.computeIfAbsent(method, name -> new TreeSet<>()).add(nameOf(called));
        } else if (!isSuper && !LIBRARY.contains(nameOf(called))) {
            forbid("rule 4: calls " + nameOf(called), tree);
        }
        return super.visitMethodInvocation(tree, none);
    }

    @Override
    public Void visitNewClass(NewClassTree tree, Void none) {
        made(tree);
        if (!isOwn(element())) {
            forbid("rule 4: makes a " + tree.getIdentifier(), tree);
        }
        forbid("rule 2: no class without a name", tree.getClassBody() != null);
        for (ExpressionTree handed : tree.getArguments()) {
            boolean isThis = handed instanceof IdentifierTree name && name.getName().contentEquals("this");
            forbid("rule 12: no constructor hands out its object", isThis);
        }
        return super.visitNewClass(tree, none);
    }

    @Override
    public Void visitNewArray(NewArrayTree tree, Void none) {
        made(tree);
        return super.visitNewArray(tree, none);
    }

    /** All objects and arrays are made with the table, so that no run of calls fills the room. */
    private void made(Tree tree) {
        if (!method.isEmpty() && !method.endsWith(".<init>")) {
            forbid("rule 12: " + method + " makes an object", tree);
        }
    }

    // ---- loops, divisors, casts

    @Override
    public Void visitForLoop(ForLoopTree tree, Void none) {
        bounded(tree, tree.getCondition());
        forbid("rule 9: a loop counts nothing in " + method, tree.getUpdate().isEmpty());
        return super.visitForLoop(tree, none);
    }

    @Override
    public Void visitWhileLoop(WhileLoopTree tree, Void none) {
        bounded(tree, tree.getCondition());
        return super.visitWhileLoop(tree, none);
    }

    @Override
    public Void visitDoWhileLoop(DoWhileLoopTree tree, Void none) {
        bounded(tree, tree.getCondition());
        return super.visitDoWhileLoop(tree, none);
    }

    private void bounded(Tree loop, ExpressionTree condition) {
        String words = condition == null ? "" : condition.toString();
        if (!words.contains("<")) {
            forbid("rule 9: a loop without a bound", loop);
        }
    }

    @Override
    public Void visitBinary(BinaryTree tree, Void none) {
        if (tree.getKind() == Tree.Kind.DIVIDE || tree.getKind() == Tree.Kind.REMAINDER) {
            divided(tree, tree.getRightOperand());
        }
        return super.visitBinary(tree, none);
    }

    @Override
    public Void visitCompoundAssignment(CompoundAssignmentTree tree, Void none) {
        if (tree.getKind() == Tree.Kind.DIVIDE_ASSIGNMENT || tree.getKind() == Tree.Kind.REMAINDER_ASSIGNMENT) {
            divided(tree, tree.getExpression());
        }
        return super.visitCompoundAssignment(tree, none);
    }

    /** A divisor is a constant, a power of ten, or a variable that its method compares with 0. */
    private void divided(Tree tree, ExpressionTree divisor) {
        String words = divisor.toString();
        Element named = trees.getElement(trees.getPath(unit, divisor));
        boolean isConstant = divisor instanceof LiteralTree
            || named instanceof VariableElement variable && variable.getConstantValue() != null;
        Tree around = getCurrentPath().getLeaf();
        for (Tree each : getCurrentPath()) {
            around = each;
            if (each instanceof MethodTree) {
                break;
            }
        }
        String body = around.toString();
        boolean isTested = body.contains(words + " == 0") || body.contains(words + " != 0");
        if (!isConstant && !words.startsWith("TENS[") && !isTested) {
            forbid("rule 7: divides by " + words + " untested", tree);
        }
    }

    @Override
    public Void visitTypeCast(TypeCastTree tree, Void none) {
        TypeMirror type = trees.getTypeMirror(trees.getPath(unit, tree.getType()));
        if (!type.getKind().isPrimitive()) {
            forbid("rule 6: a cast to " + type, tree);
        }
        return super.visitTypeCast(tree, none);
    }

    // ---- what the rules leave out

    @Override
    public Void visitThrow(ThrowTree tree, Void none) {
        forbid("rule 6: throw", tree);
        return super.visitThrow(tree, none);
    }

    @Override
    public Void visitTry(TryTree tree, Void none) {
        forbid("rule 6: try", tree);
        return super.visitTry(tree, none);
    }

    @Override
    public Void visitSynchronized(SynchronizedTree tree, Void none) {
        forbid("rule 6: synchronized", tree);
        return super.visitSynchronized(tree, none);
    }

    @Override
    public Void visitAssert(AssertTree tree, Void none) {
        forbid("rule 6: assert", tree);
        return super.visitAssert(tree, none);
    }

    @Override
    public Void visitLambdaExpression(LambdaExpressionTree tree, Void none) {
        forbid("rule 2: a lambda", tree);
        return super.visitLambdaExpression(tree, none);
    }

    @Override
    public Void visitMemberReference(MemberReferenceTree tree, Void none) {
        forbid("rule 2: a method reference", tree);
        return super.visitMemberReference(tree, none);
    }
}
