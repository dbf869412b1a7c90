import com.sun.source.tree.AssertTree;
import com.sun.source.tree.BinaryTree;
import com.sun.source.tree.ClassTree;
import com.sun.source.tree.CompilationUnitTree;
import com.sun.source.tree.ConditionalExpressionTree;
import com.sun.source.tree.ExpressionTree;
import com.sun.source.tree.LambdaExpressionTree;
import com.sun.source.tree.MemberReferenceTree;
import com.sun.source.tree.MethodInvocationTree;
import com.sun.source.tree.MethodTree;
import com.sun.source.tree.NewClassTree;
import com.sun.source.tree.SynchronizedTree;
import com.sun.source.tree.ThrowTree;
import com.sun.source.tree.Tree;
import com.sun.source.tree.TryTree;
import com.sun.source.tree.TypeCastTree;
import com.sun.source.tree.VariableTree;
import com.sun.source.util.JavacTask;
import com.sun.source.util.TreePath;
import com.sun.source.util.TreePathScanner;
import com.sun.source.util.Trees;
import java.nio.file.Path;
import java.util.ArrayDeque;
import java.util.Deque;
import java.util.HashMap;
import java.util.List;
import java.util.Map;
import java.util.Set;
import java.util.TreeSet;
import javax.lang.model.element.Element;
import javax.lang.model.element.ElementKind;
import javax.lang.model.element.Modifier;
import javax.lang.model.element.VariableElement;
import javax.lang.model.type.TypeKind;
import javax.lang.model.type.TypeMirror;
import javax.tools.StandardJavaFileManager;
import javax.tools.ToolProvider;

/**
 * Rules of LANGUAGE.md that need the compiler's own reading of the source: who calls whom and how deep, what of the
 * library is called, that a divisor is looked at before it divides, and which types and forms there are.
 */
public final class CallsTest extends TreePathScanner<Void, Void> {
    private static final int DEEPEST = 8;
    private static final Set<String> LIBRARY = Set.of(
        "java.lang.Object.<init>", "java.lang.String.length", "java.lang.String.charAt", "java.lang.Math.max", "java.lang.Math.min",
        "java.lang.Math.abs", "java.lang.Integer.bitCount", "java.lang.System.arraycopy", "java.util.Arrays.fill");
    private static final Set<TypeKind> NUMBERS = Set.of(
        TypeKind.INT, TypeKind.LONG, TypeKind.SHORT, TypeKind.BYTE, TypeKind.CHAR, TypeKind.BOOLEAN);

    private final Trees trees;
    private final Map<Element, Set<Element>> calls = new HashMap<>();
    private final Deque<Element> within = new ArrayDeque<>();
    private int wrong;

    private CallsTest(Trees trees) {
        this.trees = trees;
    }

    public static void main(String[] args) throws Exception {
        var compiler = ToolProvider.getSystemJavaCompiler();
        try (StandardJavaFileManager files = compiler.getStandardFileManager(null, null, null)) {
            var sources = files.getJavaFileObjects(Path.of("src/main/java/UnitsWrong.java"));
            JavacTask task = (JavacTask) compiler.getTask(null, files, null, List.of("-proc:none"), null, sources);
            Iterable<? extends CompilationUnitTree> units = task.parse();
            task.analyze();
            CallsTest test = new CallsTest(Trees.instance(task));
            test.scan(units, null);
            int deepest = test.deepest();
            test.want(deepest > 1 && deepest <= DEEPEST, "calls go " + deepest + " deep");
            if (test.wrong != 0) System.exit(1);
            System.out.println(test.calls.size() + " methods, calls go " + deepest + " deep at most and none goes round");
        }
    }

    private void want(boolean good, String what) {
        if (good) return;
        wrong++;
        System.out.println(what);
    }

    private static String name(Element method) {
        return method.getEnclosingElement() + "." + method.getSimpleName();
    }

    private Element here() {
        return trees.getElement(getCurrentPath());
    }

    private TypeMirror typeOf(Tree part) {
        return trees.getTypeMirror(new TreePath(getCurrentPath(), part));
    }

    private int deepest() {
        int deepest = 0;
        for (Element method : calls.keySet()) {
            if (method.getModifiers().contains(Modifier.PUBLIC)) deepest = Math.max(deepest, depth(method, new ArrayDeque<>()));
        }
        return deepest;
    }

    /** How deep the calls go from a method on, itself counted; the library's own count one. */
    private int depth(Element method, Deque<Element> open) {
        if (open.contains(method)) {
            want(false, "calls that go round: " + name(method));
            return 0;
        }
        open.push(method);
        int below = 0;
        for (Element called : calls.getOrDefault(method, Set.of())) below = Math.max(below, depth(called, open));
        open.pop();
        return below + 1;
    }

    private void calls(Element called) {
        boolean own = called.getEnclosingElement().toString().startsWith("UnitsWrong");
        want(own || LIBRARY.contains(name(called)), "not in the list of the library: " + name(called));
        if (!within.isEmpty()) calls.get(within.peek()).add(called);
    }

    @Override
    public Void visitMethod(MethodTree tree, Void none) {
        Element method = here();
        calls.put(method, new TreeSet<>((a, b) -> (name(a) + a).compareTo(name(b) + b)));
        within.push(method);
        super.visitMethod(tree, none);
        within.pop();
        return null;
    }

    @Override
    public Void visitMethodInvocation(MethodInvocationTree tree, Void none) {
        calls(here());
        return super.visitMethodInvocation(tree, none);
    }

    @Override
    public Void visitNewClass(NewClassTree tree, Void none) {
        want(tree.getClassBody() == null, "a class without a name");
        calls(here());
        return super.visitNewClass(tree, none);
    }

    @Override
    public Void visitClass(ClassTree tree, Void none) {
        Element c = here();
        boolean outer = c.getSimpleName().contentEquals("UnitsWrong");
        want(outer || c.getEnclosingElement().getKind() == ElementKind.CLASS, "a class inside a method: " + c);
        want(outer || c.getModifiers().containsAll(Set.of(Modifier.STATIC, Modifier.PRIVATE)), "not private and static: " + c);
        want(!outer || c.getModifiers().containsAll(Set.of(Modifier.PUBLIC, Modifier.FINAL)), "not public and final: " + c);
        return super.visitClass(tree, none);
    }

    @Override
    public Void visitVariable(VariableTree tree, Void none) {
        Element variable = here();
        TypeMirror type = variable.asType();
        boolean array = type.getKind() == TypeKind.ARRAY;
        String text = array ? ((javax.lang.model.type.ArrayType) type).getComponentType().toString() : type.toString();
        boolean own = text.startsWith("UnitsWrong.") || text.equals("java.lang.String") && !array;
        boolean number = NUMBERS.stream().anyMatch(kind -> kind.name().toLowerCase().equals(text));
        want(own || number, "a variable of the type " + type);
        boolean fixed = variable.getModifiers().contains(Modifier.STATIC);
        if (fixed) {
            boolean constant = ((VariableElement) variable).getConstantValue() != null;
            boolean written = array && tree.getInitializer() != null && tree.getInitializer().getKind() == Tree.Kind.NEW_ARRAY;
            want(variable.getModifiers().contains(Modifier.FINAL) && (constant || written), "static state: " + variable);
        }
        return super.visitVariable(tree, none);
    }

    @Override
    public Void visitBinary(BinaryTree tree, Void none) {
        Tree.Kind kind = tree.getKind();
        if (kind == Tree.Kind.PLUS) want(NUMBERS.contains(typeOf(tree.getLeftOperand()).getKind()), "texts joined by +: " + tree);
        if (kind == Tree.Kind.DIVIDE || kind == Tree.Kind.REMAINDER) divides(tree.getRightOperand());
        return super.visitBinary(tree, none);
    }

    /** A divisor is a number that is written out, or one that a condition around the division has looked at. */
    private void divides(ExpressionTree divisor) {
        if (divisor.getKind() == Tree.Kind.INT_LITERAL) {
            want(!divisor.toString().equals("0"), "a division by 0");
            return;
        }
        String test = divisor + " > 0";
        boolean tested = false;
        for (TreePath p = getCurrentPath(); p != null && p.getLeaf().getKind() != Tree.Kind.METHOD; p = p.getParentPath()) {
            tested |= p.getLeaf() instanceof ConditionalExpressionTree c && c.getCondition().toString().contains(test);
        }
        want(tested, "a divisor that isn't looked at: " + divisor);
    }

    @Override
    public Void visitTypeCast(TypeCastTree tree, Void none) {
        want(NUMBERS.contains(typeOf(tree.getType()).getKind()), "a cast to a class: " + tree);
        return super.visitTypeCast(tree, none);
    }

    @Override
    public Void visitLambdaExpression(LambdaExpressionTree tree, Void none) {
        want(false, "a lambda: " + tree);
        return super.visitLambdaExpression(tree, none);
    }

    @Override
    public Void visitMemberReference(MemberReferenceTree tree, Void none) {
        want(false, "a method reference: " + tree);
        return super.visitMemberReference(tree, none);
    }

    @Override
    public Void visitThrow(ThrowTree tree, Void none) {
        want(false, "throw");
        return super.visitThrow(tree, none);
    }

    @Override
    public Void visitTry(TryTree tree, Void none) {
        want(false, "try");
        return super.visitTry(tree, none);
    }

    @Override
    public Void visitSynchronized(SynchronizedTree tree, Void none) {
        want(false, "synchronized");
        return super.visitSynchronized(tree, none);
    }

    @Override
    public Void visitAssert(AssertTree tree, Void none) {
        want(false, "assert");
        return super.visitAssert(tree, none);
    }
}
