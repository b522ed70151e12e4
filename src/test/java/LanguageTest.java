import com.sun.source.tree.AssertTree;
import com.sun.source.tree.BinaryTree;
import com.sun.source.tree.BlockTree;
import com.sun.source.tree.ClassTree;
import com.sun.source.tree.CompilationUnitTree;
import com.sun.source.tree.CompoundAssignmentTree;
import com.sun.source.tree.ExpressionTree;
import com.sun.source.tree.ForLoopTree;
import com.sun.source.tree.ImportTree;
import com.sun.source.tree.InstanceOfTree;
import com.sun.source.tree.LambdaExpressionTree;
import com.sun.source.tree.LiteralTree;
import com.sun.source.tree.MemberReferenceTree;
import com.sun.source.tree.MethodInvocationTree;
import com.sun.source.tree.MethodTree;
import com.sun.source.tree.NewArrayTree;
import com.sun.source.tree.NewClassTree;
import com.sun.source.tree.SynchronizedTree;
import com.sun.source.tree.ThrowTree;
import com.sun.source.tree.Tree;
import com.sun.source.tree.TryTree;
import com.sun.source.tree.VariableTree;
import com.sun.source.tree.WhileLoopTree;
import com.sun.source.util.JavacTask;
import com.sun.source.util.TreePathScanner;
import com.sun.source.util.Trees;
import java.io.File;
import java.nio.file.Files;
import java.util.ArrayList;
import java.util.Arrays;
import java.util.HashMap;
import java.util.HashSet;
import java.util.LinkedHashMap;
import java.util.LinkedHashSet;
import java.util.List;
import java.util.Map;
import java.util.Set;
import javax.lang.model.element.Element;
import javax.lang.model.element.ElementKind;
import javax.lang.model.element.ExecutableElement;
import javax.lang.model.element.Modifier;
import javax.lang.model.type.TypeMirror;
import javax.tools.JavaCompiler;
import javax.tools.StandardJavaFileManager;
import javax.tools.ToolProvider;

// What ../shared/LANGUAGE.md leaves of Java, as far as it can be read off the source; its numbers are named.
public final class LanguageTest extends TreePathScanner<Void, Void> {
    private static final File SOURCE = new File("src/main/java/LowFall.java");
    private static final int MOST_CLASSES = 12, MOST_FIELDS = 20, MOST_LINES = 60, MOST_PARAMETERS = 7, MOST_DEEP = 8;
    private static final List<String> THROWN = Arrays.asList("IllegalStateException", "IllegalArgumentException");
    // The one method that makes something: an image, once for a tape.
    private static final String MAKER = "keep";
    private static final List<String> LIBRARY = Arrays.asList("java.lang.Math.abs", "java.lang.Math.min", "java.lang.Math.max",
        "java.lang.System.arraycopy", "java.util.Arrays.fill", "java.lang.String.indexOf");

    private final Trees trees;
    private final CompilationUnitTree unit;
    private final List<String> faults = new ArrayList<>();
    private final Map<Element, Set<Element>> calls = new LinkedHashMap<>();
    private int classes = 0;

    private LanguageTest(Trees trees, CompilationUnitTree unit) {
        this.trees = trees;
        this.unit = unit;
    }

    public static void main(String[] args) throws Exception {
        JavaCompiler compiler = ToolProvider.getSystemJavaCompiler();
        StandardJavaFileManager files = compiler.getStandardFileManager(null, null, null);
        JavacTask task = (JavacTask) compiler.getTask(null, files, null, List.of("-proc:none"), null, files.getJavaFileObjects(SOURCE));
        CompilationUnitTree unit = task.parse().iterator().next();
        task.analyze();
        LanguageTest test = new LanguageTest(Trees.instance(task), unit);
        test.scan(unit, null);
        test.lookAtWhole();
        for (String fault : test.faults) System.out.println("language: " + fault);
        if (!test.faults.isEmpty()) System.exit(1);
        System.out.println("language: " + test.classes + " classes, " + test.calls.size() + " methods, calls "
            + test.deepest() + " deep");
    }

    private void fault(int rule, String what, Tree at) {
        long line = unit.getLineMap().getLineNumber(trees.getSourcePositions().getStartPosition(unit, at));
        faults.add("rule " + rule + ", line " + line + ": " + what);
    }

    private int linesOf(Tree tree) {
        long from = trees.getSourcePositions().getStartPosition(unit, tree), to = trees.getSourcePositions().getEndPosition(unit, tree);
        return (int) (unit.getLineMap().getLineNumber(to) - unit.getLineMap().getLineNumber(from)) + 1;
    }

    private void lookAtWhole() throws Exception {
        if (unit.getPackage() != null) fault(1, "a package", unit);
        if (classes > MOST_CLASSES) fault(11, classes + " classes", unit);
        if (deepest() > MOST_DEEP) fault(11, "calls " + deepest() + " deep", unit);
        for (byte b : Files.readAllBytes(SOURCE.toPath())) {
            if (b == '\n' || b >= 32 && b < 127) continue;
            fault(4, "a sign that is not plain", unit);
            break;
        }
    }

    // ---- what may not stand at all

    @Override
    public Void visitLambdaExpression(LambdaExpressionTree tree, Void v) {
        fault(2, "a lambda", tree);
        return super.visitLambdaExpression(tree, v);
    }

    @Override
    public Void visitMemberReference(MemberReferenceTree tree, Void v) {
        fault(2, "a method reference", tree);
        return super.visitMemberReference(tree, v);
    }

    @Override
    public Void visitSynchronized(SynchronizedTree tree, Void v) {
        fault(6, "synchronized", tree);
        return super.visitSynchronized(tree, v);
    }

    @Override
    public Void visitAssert(AssertTree tree, Void v) {
        fault(6, "assert", tree);
        return super.visitAssert(tree, v);
    }

    // Nothing that the class calls throws, so it has nothing to catch.
    @Override
    public Void visitTry(TryTree tree, Void v) {
        fault(6, "try", tree);
        return super.visitTry(tree, v);
    }

    // No cast among classes: each reference is of the class it was made of.
    @Override
    public Void visitInstanceOf(InstanceOfTree tree, Void v) {
        fault(6, "instanceof", tree);
        return super.visitInstanceOf(tree, v);
    }

    @Override
    public Void visitImport(ImportTree tree, Void v) {
        if (!tree.getQualifiedIdentifier().toString().equals("java.util.Arrays")) fault(4, "an import", tree);
        return super.visitImport(tree, v);
    }

    // ---- classes, fields, methods

    @Override
    public Void visitClass(ClassTree tree, Void v) {
        classes++;
        boolean inside = getCurrentPath().getParentPath().getLeaf() != unit;
        Set<Modifier> is = tree.getModifiers().getFlags();
        if (inside && !(is.contains(Modifier.PRIVATE) && is.contains(Modifier.STATIC))) fault(1, "a class inside", tree);
        int fields = 0;
        for (Tree member : tree.getMembers()) {
            if (member instanceof BlockTree) fault(5, "an initialiser block", member);
            if (member instanceof VariableTree && !lookAtField((VariableTree) member)) fields++;
        }
        if (fields > MOST_FIELDS) fault(11, tree.getSimpleName() + " has " + fields + " fields", tree);
        return super.visitClass(tree, v);
    }

    // Whether it is a constant.
    private boolean lookAtField(VariableTree field) {
        Set<Modifier> is = field.getModifiers().getFlags();
        if (!is.contains(Modifier.STATIC)) return false;
        if (!is.contains(Modifier.FINAL)) fault(5, "a static field that is not final", field);
        if (!Arrays.asList("int", "String").contains(field.getType().toString())) fault(5, "a static " + field.getType(), field);
        return true;
    }

    @Override
    public Void visitMethod(MethodTree tree, Void v) {
        calls.computeIfAbsent(trees.getElement(getCurrentPath()), m -> new LinkedHashSet<>());
        if (linesOf(tree) > MOST_LINES) fault(11, tree.getName() + " is long", tree);
        if (tree.getParameters().size() > MOST_PARAMETERS) fault(11, tree.getName() + " takes much", tree);
        return super.visitMethod(tree, v);
    }

    private MethodTree methodHere() {
        for (Tree tree : getCurrentPath()) if (tree instanceof MethodTree) return (MethodTree) tree;
        return null;
    }

    private Element elementHere() {
        for (var path = getCurrentPath(); path != null; path = path.getParentPath()) {
            if (path.getLeaf() instanceof MethodTree) return trees.getElement(path);
        }
        return null;
    }

    // ---- what is called, made and thrown

    @Override
    public Void visitMethodInvocation(MethodInvocationTree tree, Void v) {
        Element called = trees.getElement(trees.getPath(unit, tree.getMethodSelect()));
        if (called == null || called.getKind() != ElementKind.METHOD) return super.visitMethodInvocation(tree, v);
        String name = called.getEnclosingElement() + "." + called.getSimpleName();
        if (elementHere() != null) calls.computeIfAbsent(elementHere(), m -> new LinkedHashSet<>()).add(called);
        if (!name.startsWith("LowFall") && !LIBRARY.contains(name)) fault(4, "a call of " + name, tree);
        return super.visitMethodInvocation(tree, v);
    }

    @Override
    public Void visitNewClass(NewClassTree tree, Void v) {
        if (tree.getClassBody() != null) fault(2, "an anonymous class", tree);
        if (!isThrown()) lookAtMaking(tree);
        return super.visitNewClass(tree, v);
    }

    @Override
    public Void visitNewArray(NewArrayTree tree, Void v) {
        lookAtMaking(tree);
        return super.visitNewArray(tree, v);
    }

    private boolean isThrown() {
        return getCurrentPath().getParentPath().getLeaf() instanceof ThrowTree;
    }

    private void lookAtMaking(Tree tree) {
        MethodTree in = methodHere();
        if (in == null || in.getName().contentEquals("<init>") || in.getName().contentEquals(MAKER)) return;
        fault(12, in.getName() + " makes something", tree);
    }

    @Override
    public Void visitThrow(ThrowTree tree, Void v) {
        MethodTree in = methodHere();
        ExpressionTree what = tree.getExpression();
        if (!(what instanceof NewClassTree) || in == null || in.getName().contentEquals("<init>")) {
            fault(6, "a throw", tree);
            return super.visitThrow(tree, v);
        }
        NewClassTree made = (NewClassTree) what;
        String kind = made.getIdentifier().toString();
        List<String> told = new ArrayList<>();
        for (ExpressionTree e : in.getThrows()) told.add(e.toString());
        if (!THROWN.contains(kind) || !told.contains(kind)) fault(6, in.getName() + " throws " + kind, tree);
        for (ExpressionTree text : made.getArguments()) if (!(text instanceof LiteralTree)) fault(6, "a text that is put together", text);
        return super.visitThrow(tree, v);
    }

    // ---- sums, tests and loops

    @Override
    public Void visitBinary(BinaryTree tree, Void v) {
        TypeMirror left = typeOf(tree.getLeftOperand()), right = typeOf(tree.getRightOperand());
        boolean texts = isText(left) || isText(right);
        if (texts && tree.getKind() == Tree.Kind.PLUS) fault(10, "texts joined by +", tree);
        if (isText(left) && isText(right)) fault(6, "two texts compared", tree);
        return super.visitBinary(tree, v);
    }

    @Override
    public Void visitCompoundAssignment(CompoundAssignmentTree tree, Void v) {
        if (isText(typeOf(tree.getVariable()))) fault(10, "texts joined by +", tree);
        return super.visitCompoundAssignment(tree, v);
    }

    private TypeMirror typeOf(Tree tree) {
        return trees.getTypeMirror(trees.getPath(unit, tree));
    }

    private static boolean isText(TypeMirror type) {
        return type != null && type.toString().equals("java.lang.String");
    }

    // A loop counts against a bound: a comparison by size stands in its head.
    @Override
    public Void visitWhileLoop(WhileLoopTree tree, Void v) {
        if (!tree.getCondition().toString().contains("<")) fault(9, "a loop without a bound", tree);
        return super.visitWhileLoop(tree, v);
    }

    @Override
    public Void visitForLoop(ForLoopTree tree, Void v) {
        String head = "" + tree.getCondition();
        if (!head.contains("<") && !head.contains(">")) fault(9, "a loop without a bound", tree);
        return super.visitForLoop(tree, v);
    }

    // ---- how deep calls go: methods that stand open at once, the library's too, each of a recursion counted once

    private int deepest() {
        int deepest = 0;
        Map<Element, Integer> known = new HashMap<>();
        for (Element m : calls.keySet()) {
            if (m instanceof ExecutableElement) deepest = Math.max(deepest, deepFrom(m, new HashSet<>(), known));
        }
        return deepest;
    }

    // What lies on a way that comes back to an open method is not kept, as it is less than from elsewhere.
    private int deepFrom(Element m, Set<Element> open, Map<Element, Integer> known) {
        if (known.containsKey(m)) return known.get(m);
        if (!open.add(m)) return 0;
        int deepest = 0;
        for (Element called : calls.getOrDefault(m, Set.of())) deepest = Math.max(deepest, deepFrom(called, open, known));
        open.remove(m);
        if (open.isEmpty()) known.put(m, deepest + 1);
        return deepest + 1;
    }
}
