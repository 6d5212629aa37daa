import com.sun.source.tree.AssertTree;
import com.sun.source.tree.ClassTree;
import com.sun.source.tree.CompilationUnitTree;
import com.sun.source.tree.ImportTree;
import com.sun.source.tree.LambdaExpressionTree;
import com.sun.source.tree.MemberReferenceTree;
import com.sun.source.tree.MethodInvocationTree;
import com.sun.source.tree.MethodTree;
import com.sun.source.tree.NewClassTree;
import com.sun.source.tree.SynchronizedTree;
import com.sun.source.tree.ThrowTree;
import com.sun.source.tree.TryTree;
import com.sun.source.tree.VariableTree;
import com.sun.source.tree.WhileLoopTree;
import com.sun.source.util.JavacTask;
import com.sun.source.util.TreePath;
import com.sun.source.util.TreePathScanner;
import com.sun.source.util.Trees;
import java.io.File;
import java.io.IOException;
import java.util.HashMap;
import java.util.HashSet;
import java.util.Map;
import java.util.Set;
import java.util.TreeSet;
import javax.lang.model.element.Element;
import javax.lang.model.element.ElementKind;
import javax.lang.model.element.Modifier;
import javax.tools.JavaCompiler;
import javax.tools.StandardJavaFileManager;
import javax.tools.ToolProvider;

/** What can be seen in the source of the rules of ../shared/LANGUAGE.md; the rule's number is told. */
public final class LanguageTest extends TreePathScanner<Void, Void> {
    private static final String SOURCE = "src/main/java/ScopeLister.java";
    private static final Set<String> LIBRARY = Set.of(
            "java.lang.String.length", "java.lang.String.charAt", "java.lang.System.arraycopy",
            "java.util.Arrays.fill", "java.lang.Integer.bitCount", "java.lang.Math.min", "java.lang.Math.max");
    private static final Set<String> EXCEPTIONS = Set.of(
            "IllegalStateException", "IllegalArgumentException", "IndexOutOfBoundsException");
    private static final Set<String> CONSTANTS = Set.of(
            "int", "long", "boolean", "char", "String", "int[]", "long[]", "char[]", "byte[]");

    /** Those that carry their depth as an argument, and the one between two of them. */
    private static final Set<String> RECURSIVE = Set.of("fillNext", "holds", "quantifierHolds", "writeFragment");

    private final Trees trees;
    private final CompilationUnitTree unit;

    /** The class's own methods that each of its methods calls. */
    private final Map<Element, Set<Element>> callees = new HashMap<>();
    private int classes;
    private int wrong;

    private LanguageTest(Trees trees, CompilationUnitTree unit) {
        this.trees = trees;
        this.unit = unit;
    }

    public static void main(String[] args) throws IOException {
        JavaCompiler compiler = ToolProvider.getSystemJavaCompiler();
        StandardJavaFileManager files = compiler.getStandardFileManager(null, null, null);
        JavacTask task = (JavacTask) compiler.getTask(null, files, null, null, null,
                files.getJavaFileObjects(new File(SOURCE)));
        CompilationUnitTree unit = task.parse().iterator().next();
        task.analyze();
        LanguageTest test = new LanguageTest(Trees.instance(task), unit);
        test.scan(new TreePath(unit), null);
        test.check(test.classes <= 12, "rule 11: many classes", "");
        test.measureCalls();
        Script.exit(test.wrong);
    }

    private void check(boolean isRight, String rule, Object what) {
        if (!isRight) {
            wrong++;
            System.out.println(rule + ": " + what);
        }
    }

    @Override
    public Void visitImport(ImportTree tree, Void none) {
        String name = tree.getQualifiedIdentifier().toString();
        check(Set.of("java.util.Arrays", "java.util.ArrayList", "java.util.List").contains(name), "rule 4", name);
        return super.visitImport(tree, none);
    }

    @Override
    public Void visitClass(ClassTree tree, Void none) {
        classes++;
        return super.visitClass(tree, none);
    }

    @Override
    public Void visitMethod(MethodTree tree, Void none) {
        long start = trees.getSourcePositions().getStartPosition(unit, tree);
        long end = trees.getSourcePositions().getEndPosition(unit, tree);
        long lines = end < 0 ? 0 : unit.getLineMap().getLineNumber(end) - unit.getLineMap().getLineNumber(start) + 1;
        check(lines <= 60, "rule 11: a long method", tree.getName());
        check(tree.getParameters().size() <= 7, "rule 11: many parameters", tree.getName());
        return super.visitMethod(tree, none);
    }

    @Override
    public Void visitVariable(VariableTree tree, Void none) {
        Set<Modifier> flags = tree.getModifiers().getFlags();
        if (flags.contains(Modifier.STATIC)) {
            boolean isConstant = flags.contains(Modifier.FINAL) && CONSTANTS.contains(tree.getType().toString());
            check(isConstant && tree.getInitializer() != null, "rule 5", tree);
        }
        return super.visitVariable(tree, none);
    }

    @Override
    public Void visitMethodInvocation(MethodInvocationTree tree, Void none) {
        Element method = trees.getElement(new TreePath(getCurrentPath(), tree.getMethodSelect()));
        String owner = method == null ? "?" : method.getEnclosingElement().toString();
        String name = owner + "." + (method == null ? tree : method.getSimpleName());
        boolean isOwn = owner.equals("ScopeLister") || owner.startsWith("ScopeLister.");
        boolean isSuper = method != null && method.getKind() == ElementKind.CONSTRUCTOR;
        check(isOwn || isSuper || LIBRARY.contains(name), "rule 4", name);
        if (isOwn && !isSuper) {
            callees.computeIfAbsent(caller(), key -> new HashSet<>()).add(method);
        }
        return super.visitMethodInvocation(tree, none);
    }

    private Element caller() {
        TreePath path = getCurrentPath();
        while (!(path.getLeaf() instanceof MethodTree) && !(path.getLeaf() instanceof ClassTree)) {
            path = path.getParentPath();
        }
        return trees.getElement(path);
    }

    private void measureCalls() {
        Set<String> recursive = new TreeSet<>();
        for (Element method : callees.keySet()) {
            int depth = depthFrom(method, new HashSet<>(), recursive);
            check(depth <= 8, "rule 11: calls that are no recursion go " + depth + " deep", method);
        }
        check(recursive.equals(RECURSIVE), "rule 8: recursion without a depth that is carried", recursive);
    }

    /** The longest chain of calls in which no method stands twice. */
    private int depthFrom(Element method, Set<Element> open, Set<String> recursive) {
        int deepest = 0;
        open.add(method);
        for (Element callee : callees.getOrDefault(method, Set.of())) {
            if (open.contains(callee)) {
                recursive.add(callee.getSimpleName().toString());
            } else {
                deepest = Math.max(deepest, depthFrom(callee, open, recursive));
            }
        }
        open.remove(method);
        return 1 + deepest;
    }

    @Override
    public Void visitThrow(ThrowTree tree, Void none) {
        boolean isNew = tree.getExpression() instanceof NewClassTree;
        String text = tree.getExpression().toString();
        boolean isAllowed = isNew && EXCEPTIONS.contains(((NewClassTree) tree.getExpression()).getIdentifier().toString());
        check(isAllowed && text.matches("new \\w+\\(\"[^\"]*\"\\)"), "rule 6", text);
        return super.visitThrow(tree, none);
    }

    @Override
    public Void visitTry(TryTree tree, Void none) {
        check(false, "rule 6: nothing here needs a try", "");
        return super.visitTry(tree, none);
    }

    @Override
    public Void visitWhileLoop(WhileLoopTree tree, Void none) {
        check(false, "rule 9: a loop with a counter shows its end", tree.getCondition());
        return super.visitWhileLoop(tree, none);
    }

    @Override
    public Void visitLambdaExpression(LambdaExpressionTree tree, Void none) {
        check(false, "rule 2", tree);
        return super.visitLambdaExpression(tree, none);
    }

    @Override
    public Void visitMemberReference(MemberReferenceTree tree, Void none) {
        check(false, "rule 2", tree);
        return super.visitMemberReference(tree, none);
    }

    @Override
    public Void visitAssert(AssertTree tree, Void none) {
        check(false, "rule 6", tree);
        return super.visitAssert(tree, none);
    }

    @Override
    public Void visitSynchronized(SynchronizedTree tree, Void none) {
        check(false, "rule 6", tree);
        return super.visitSynchronized(tree, none);
    }
}
