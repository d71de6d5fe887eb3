import com.sun.source.tree.AssertTree;
import com.sun.source.tree.BinaryTree;
import com.sun.source.tree.ClassTree;
import com.sun.source.tree.CompilationUnitTree;
import com.sun.source.tree.CompoundAssignmentTree;
import com.sun.source.tree.ConditionalExpressionTree;
import com.sun.source.tree.ExpressionTree;
import com.sun.source.tree.ForLoopTree;
import com.sun.source.tree.LambdaExpressionTree;
import com.sun.source.tree.LiteralTree;
import com.sun.source.tree.MemberReferenceTree;
import com.sun.source.tree.MemberSelectTree;
import com.sun.source.tree.MethodInvocationTree;
import com.sun.source.tree.MethodTree;
import com.sun.source.tree.NewClassTree;
import com.sun.source.tree.SynchronizedTree;
import com.sun.source.tree.ThrowTree;
import com.sun.source.tree.Tree;
import com.sun.source.tree.TryTree;
import com.sun.source.tree.VariableTree;
import com.sun.source.tree.WhileLoopTree;
import com.sun.source.util.JavacTask;
import com.sun.source.util.TreePath;
import com.sun.source.util.TreePathScanner;
import com.sun.source.util.Trees;
import java.io.File;
import java.io.IOException;
import java.lang.reflect.Constructor;
import java.lang.reflect.Field;
import java.lang.reflect.Method;
import java.lang.reflect.Modifier;
import java.util.HashMap;
import java.util.HashSet;
import java.util.List;
import java.util.Map;
import java.util.Set;
import java.util.TreeSet;
import javax.lang.model.element.Element;
import javax.lang.model.element.ElementKind;
import javax.lang.model.element.VariableElement;
import javax.tools.JavaCompiler;
import javax.tools.StandardJavaFileManager;
import javax.tools.ToolProvider;

/** The rules of LANGUAGE.md that a program can look at, looked at in the source of the class. */
final class LanguageTest extends TreePathScanner<Void, Void> {
    private static final Set<String> FACE = Set.of("feed 5", "back 1", "read 0", "place 0", "corner 2", "street 2", "young 2",
        "word 2", "tells 3", "step 1", "say 2", "move 2", "rouge 1", "hours 1", "undo 0", "darkens 1", "best 1", "telling 2",
        "keep 0", "steps 2", "round 0", "safe 1", "dark 2", "bridges 0", "gather 1", "moves 2", "cut 2", "tree 0", "twins 1",
        "brightest 1", "glowIn 2", "then 2", "year 3", "tell 3", "forget 0", "words 2", "look 2", "hold 1", "restore 1",
        "count 1");
    private static final Set<String> LIBRARY = Set.of("java.lang.Math.max", "java.lang.Math.min", "java.lang.Math.abs",
        "java.lang.Integer.bitCount", "java.lang.String.length", "java.lang.String.charAt", "java.lang.String.indexOf",
        "java.lang.System.arraycopy", "java.util.Arrays.fill");
    private static final String[] TYPES = {"int", "long", "byte", "boolean", "int[]", "long[]", "byte[]", "java.lang.String"};
    private static final int LONGEST_METHOD = 60;
    private static final int DEEPEST = 8;

    private final Check check;
    private final Trees trees;
    private final CompilationUnitTree unit;
    private final Set<String> faceNames = new HashSet<>();
    private final Map<String, Set<String>> calls = new HashMap<>();
    private final Set<String> openNow = new HashSet<>();
    private int classes;
    private String method = "";

    private LanguageTest(Check check, Trees trees, CompilationUnitTree unit) {
        this.check = check;
        this.trees = trees;
        this.unit = unit;
        for (String member : FACE) {
            faceNames.add(member.substring(0, member.indexOf(' ')));
        }
    }

    public static void main(String[] args) throws IOException {
        Check check = new Check("LanguageTest");
        JavaCompiler compiler = ToolProvider.getSystemJavaCompiler();
        try (StandardJavaFileManager files = compiler.getStandardFileManager(null, null, null)) {
            JavacTask task = (JavacTask) compiler.getTask(null, files, null, List.of("-proc:none"), null,
                files.getJavaFileObjects(new File("src/main/java/BlushLamps.java")));
            CompilationUnitTree unit = task.parse().iterator().next();
            task.analyze();
            LanguageTest test = new LanguageTest(check, Trees.instance(task), unit);
            test.scan(unit, null);
            test.endOfFile();
        }
        lookAtFace(check);
        check.end();
    }

    private static void lookAtFace(Check check) {
        check.due("the class is public and final", BlushLamps.class.getModifiers(), Modifier.PUBLIC | Modifier.FINAL);
        Set<String> face = new TreeSet<>();
        for (Method m : BlushLamps.class.getDeclaredMethods()) {
            if (Modifier.isPublic(m.getModifiers())) {
                face.add(m.getName() + " " + m.getParameterCount());
            } else {
                check.due(m + " is private", Modifier.isPrivate(m.getModifiers()), true);
            }
        }
        check.due("the face is " + face, face.equals(FACE), true);
        for (Field f : BlushLamps.class.getDeclaredFields()) {
            check.due(f + " is private or NONE", Modifier.isPrivate(f.getModifiers()) != f.getName().equals("NONE"), true);
        }
        Constructor<?>[] made = BlushLamps.class.getDeclaredConstructors();
        check.due("one constructor", made.length, 1);
        check.due("it is public", Modifier.isPublic(made[0].getModifiers()), true);
        for (Class<?> inside : BlushLamps.class.getDeclaredClasses()) {
            check.due(inside + " is static", Modifier.isStatic(inside.getModifiers()), true);
            check.due(inside + " is private", Modifier.isPrivate(inside.getModifiers()), true);
        }
    }

    private void no(String what, Tree tree) {
        long line = unit.getLineMap().getLineNumber(trees.getSourcePositions().getStartPosition(unit, tree));
        check.due("line " + line + ": " + what, true, false);
    }

    private Element element(Tree tree) {
        return trees.getElement(TreePath.getPath(unit, tree));
    }

    private static String nameOf(Element method) {
        return method.getEnclosingElement() + "." + method.getSimpleName();
    }

    private boolean isText(Tree tree) {
        return trees.getTypeMirror(TreePath.getPath(unit, tree)).toString().equals("java.lang.String");
    }

    @Override
    public Void visitClass(ClassTree tree, Void none) {
        classes++;
        long fields = tree.getMembers().stream().filter(m -> m instanceof VariableTree v
            && !v.getModifiers().getFlags().contains(javax.lang.model.element.Modifier.STATIC)).count();
        check.due(tree.getSimpleName() + " has at most 20 fields", fields <= 20, true);
        return super.visitClass(tree, none);
    }

    @Override
    public Void visitMethod(MethodTree tree, Void none) {
        Element it = element(tree);
        long first = unit.getLineMap().getLineNumber(trees.getSourcePositions().getStartPosition(unit, tree));
        long last = unit.getLineMap().getLineNumber(trees.getSourcePositions().getEndPosition(unit, tree));
        check.due(nameOf(it) + " is short", last - first < LONGEST_METHOD, true);
        check.due(nameOf(it) + " has few parameters", tree.getParameters().size() <= 7, true);
        boolean isOfFace = it.getModifiers().contains(javax.lang.model.element.Modifier.PUBLIC);
        check.due(nameOf(it) + " has a name of its own", !isOfFace && faceNames.contains(tree.getName().toString()), false);
        String outer = method;
        method = nameOf(it);
        check.due(method + " is told once", calls.containsKey(method), false);
        calls.put(method, new TreeSet<>());
        super.visitMethod(tree, none);
        method = outer;
        return null;
    }

    @Override
    public Void visitMethodInvocation(MethodInvocationTree tree, Void none) {
        String called = nameOf(element(tree.getMethodSelect()));
        if (called.startsWith("BlushLamps")) {
            calls.getOrDefault(method, new HashSet<>()).add(called);
        } else if (!called.endsWith(".super") && !called.endsWith(".<init>") && !LIBRARY.contains(called)) {
            no("the library has no " + called, tree);
        }
        return super.visitMethodInvocation(tree, none);
    }

    @Override
    public Void visitVariable(VariableTree tree, Void none) {
        Element it = element(tree);
        String type = it.asType().toString();
        boolean isAllowed = type.startsWith("BlushLamps") || List.of(TYPES).contains(type);
        if (!isAllowed) {
            no("type " + type, tree);
        }
        boolean isStatic = it.getModifiers().contains(javax.lang.model.element.Modifier.STATIC);
        if (it.getKind() == ElementKind.FIELD && isStatic
            && !it.getModifiers().contains(javax.lang.model.element.Modifier.FINAL)) {
            no("a static field that changes", tree);
        }
        return super.visitVariable(tree, none);
    }

    @Override
    public Void visitBinary(BinaryTree tree, Void none) {
        boolean isOfTexts = isText(tree.getLeftOperand()) || isText(tree.getRightOperand());
        if (isOfTexts) {
            no("texts joined or compared by a sign", tree);
        }
        boolean divides = tree.getKind() == Tree.Kind.DIVIDE || tree.getKind() == Tree.Kind.REMAINDER;
        if (divides && !isNeverZero(tree.getRightOperand()) && !isLookedAt(tree.getRightOperand())) {
            no("a divisor that was not looked at", tree);
        }
        return super.visitBinary(tree, none);
    }

    private boolean isNeverZero(ExpressionTree divisor) {
        Object worth = null;
        if (divisor instanceof LiteralTree literal) {
            worth = literal.getValue();
        } else if (element(divisor) instanceof VariableElement constant) {
            worth = constant.getConstantValue();
        }
        return worth instanceof Integer n && n != 0;
    }

    /** Whether it stands in an a ? b : c whose a compares it. */
    private boolean isLookedAt(ExpressionTree divisor) {
        for (TreePath path = TreePath.getPath(unit, divisor); path != null; path = path.getParentPath()) {
            if (path.getLeaf() instanceof ConditionalExpressionTree choice) {
                String looks = choice.getCondition().toString();
                return looks.equals("(" + divisor + " == 0)") || looks.equals(divisor + " == 0") || looks.equals(divisor + " <= 0");
            }
        }
        return false;
    }

    /** A field of the library is no function of it, and stands on no list; an array's length belongs to the language. */
    @Override
    public Void visitMemberSelect(MemberSelectTree tree, Void none) {
        Element it = element(tree);
        if (it != null && it.getKind() == ElementKind.FIELD && it.getEnclosingElement().toString().startsWith("java.")) {
            no("the library's field " + tree, tree);
        }
        return super.visitMemberSelect(tree, none);
    }

    @Override
    public Void visitForLoop(ForLoopTree tree, Void none) {
        if (tree.getCondition() == null || !comparesOrder(tree.getCondition())) {
            no("a loop without a bound", tree);
        }
        return super.visitForLoop(tree, none);
    }

    @Override
    public Void visitWhileLoop(WhileLoopTree tree, Void none) {
        if (!comparesOrder(tree.getCondition())) {
            no("a loop without a bound", tree);
        }
        return super.visitWhileLoop(tree, none);
    }

    private static boolean comparesOrder(ExpressionTree condition) {
        String all = condition.toString();
        return all.contains(" < ") || all.contains(" <= ") || all.contains(" >= ");
    }

    @Override
    public Void visitCompoundAssignment(CompoundAssignmentTree tree, Void none) {
        if (isText(tree.getVariable())) {
            no("texts joined by a sign", tree);
        }
        return super.visitCompoundAssignment(tree, none);
    }

    @Override
    public Void visitNewClass(NewClassTree tree, Void none) {
        if (tree.getClassBody() != null) {
            no("an anonymous class", tree);
        }
        Element made = element(tree);
        calls.getOrDefault(method, new HashSet<>()).add(nameOf(made));
        return super.visitNewClass(tree, none);
    }

    @Override
    public Void visitLambdaExpression(LambdaExpressionTree tree, Void none) {
        no("a lambda", tree);
        return null;
    }

    @Override
    public Void visitMemberReference(MemberReferenceTree tree, Void none) {
        no("a method reference", tree);
        return null;
    }

    @Override
    public Void visitThrow(ThrowTree tree, Void none) {
        no("throw", tree);
        return null;
    }

    @Override
    public Void visitTry(TryTree tree, Void none) {
        no("try", tree);
        return null;
    }

    @Override
    public Void visitSynchronized(SynchronizedTree tree, Void none) {
        no("synchronized", tree);
        return null;
    }

    @Override
    public Void visitAssert(AssertTree tree, Void none) {
        no("assert", tree);
        return null;
    }

    private void endOfFile() {
        check.due("at most 12 classes, there are " + classes, classes <= 12, true);
        for (String m : calls.keySet()) {
            int depth = depthOf(m);
            check.due(m + " opens " + depth + " calls", depth <= DEEPEST, true);
        }
    }

    /** How many methods stand open at most, each one that calls itself (by others, too) counted once. */
    private int depthOf(String m) {
        if (!openNow.add(m)) {
            return 0;
        }
        int deepest = 0;
        for (String next : calls.getOrDefault(m, Set.of())) {
            deepest = Math.max(deepest, depthOf(next));
        }
        openNow.remove(m);
        return deepest + 1;
    }
}
