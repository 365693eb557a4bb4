import com.sun.source.tree.BinaryTree;
import com.sun.source.tree.ClassTree;
import com.sun.source.tree.CompilationUnitTree;
import com.sun.source.tree.LambdaExpressionTree;
import com.sun.source.tree.MemberReferenceTree;
import com.sun.source.tree.MethodInvocationTree;
import com.sun.source.tree.MethodTree;
import com.sun.source.tree.NewClassTree;
import com.sun.source.tree.Tree;
import com.sun.source.util.JavacTask;
import com.sun.source.util.TreePath;
import com.sun.source.util.TreePathScanner;
import com.sun.source.util.Trees;
import java.io.IOException;
import java.nio.file.Path;
import java.util.ArrayList;
import java.util.LinkedHashMap;
import java.util.LinkedHashSet;
import java.util.List;
import java.util.Map;
import java.util.Set;
import javax.lang.model.element.Element;
import javax.lang.model.element.ElementKind;
import javax.lang.model.element.ExecutableElement;
import javax.lang.model.element.Modifier;
import javax.lang.model.element.TypeElement;
import javax.lang.model.type.TypeMirror;
import javax.tools.JavaCompiler;
import javax.tools.StandardJavaFileManager;
import javax.tools.ToolProvider;

/** LANGUAGE.md, rules 4, 8, 10, 11: who calls whom, as the compiler itself reads the program. */
public final class CallsTest {
    private static final Checks c = new Checks();
    private static final int MOST_DEEP = 8;
    private static final Set<String> LIBRARY = Set.of("java.util.Arrays.copyOf", "java.util.Arrays.copyOfRange",
        "java.util.Arrays.fill", "java.lang.System.arraycopy");
    private static final Set<String> NUMBERS = Set.of("java.lang.Integer", "java.lang.Long", "java.lang.Math");

    private final Map<ExecutableElement, Set<ExecutableElement>> calls = new LinkedHashMap<>();
    private final Map<ExecutableElement, Integer> depths = new LinkedHashMap<>();
    private final List<ExecutableElement> open = new ArrayList<>();

    public static void main(String[] args) throws IOException {
        CallsTest test = new CallsTest();
        test.read();
        test.depths();
        c.end("CallsTest");
    }

    private void read() throws IOException {
        JavaCompiler compiler = ToolProvider.getSystemJavaCompiler();
        try (StandardJavaFileManager files = compiler.getStandardFileManager(null, null, null)) {
            JavacTask task = (JavacTask) compiler.getTask(null, files, null, List.of("--release", "17"), null,
                files.getJavaFileObjects(Path.of("src/main/java/RowsDrawn.java")));
            Iterable<? extends CompilationUnitTree> units = task.parse();
            task.analyze();
            for (CompilationUnitTree unit : units) {
                new Reader(Trees.instance(task)).scan(unit, null);
            }
        }
    }

    /** A call of a method that classes inside override may be a call of each of theirs. */
    private List<ExecutableElement> mayMean(ExecutableElement called) {
        List<ExecutableElement> all = new ArrayList<>(List.of(called));
        if (called.getModifiers().contains(Modifier.ABSTRACT)) {
            for (ExecutableElement other : calls.keySet()) {
                if (other.getSimpleName().equals(called.getSimpleName()) && isUnder(other, called)) {
                    all.add(other);
                }
            }
            c.isTrue("something overrides " + told(called), all.size() > 1);
        }
        return all;
    }

    private static boolean isUnder(ExecutableElement other, ExecutableElement called) {
        TypeMirror above = ((TypeElement) other.getEnclosingElement()).getSuperclass();
        return above.toString().equals(called.getEnclosingElement().asType().toString());
    }

    private void depths() {
        for (ExecutableElement method : calls.keySet()) {
            int depth = depthOf(method);
            c.isTrue(told(method) + " goes " + depth + " calls deep", depth <= MOST_DEEP);
        }
        c.isTrue("calls were found", depths.size() > 26);
    }

    /** How many calls stand open at once, with this one the first of them. */
    private int depthOf(ExecutableElement method) {
        if (open.contains(method)) {
            c.isTrue("no recursion: " + told(method), false);
            return 0;
        }
        Integer known = depths.get(method);
        if (known != null) {
            return known;
        }
        open.add(method);
        int deepest = 0;
        for (ExecutableElement called : calls.getOrDefault(method, Set.of())) {
            for (ExecutableElement meant : mayMean(called)) {
                deepest = Math.max(deepest, depthOf(meant));
            }
        }
        open.remove(method);
        depths.put(method, deepest + 1);
        return deepest + 1;
    }

    private static String told(ExecutableElement method) {
        return method.getEnclosingElement() + "." + method;
    }

    private final class Reader extends TreePathScanner<Void, Void> {
        private final Trees trees;
        private ExecutableElement within;

        Reader(Trees trees) {
            this.trees = trees;
        }

        private Element element(Tree tree) {
            return trees.getElement(new TreePath(getCurrentPath(), tree));
        }

        private String type(Tree tree) {
            return trees.getTypeMirror(new TreePath(getCurrentPath(), tree)).toString();
        }

        @Override
        public Void visitClass(ClassTree tree, Void none) {
            c.isTrue("no class inside a method: " + tree.getSimpleName(), within == null);
            return super.visitClass(tree, none);
        }

        @Override
        public Void visitMethod(MethodTree tree, Void none) {
            within = (ExecutableElement) trees.getElement(getCurrentPath());
            calls.put(within, new LinkedHashSet<>());
            c.isTrue(told(within) + " takes seven at most", tree.getParameters().size() <= 7);
            super.visitMethod(tree, none);
            within = null;
            return null;
        }

        @Override
        public Void visitMethodInvocation(MethodInvocationTree tree, Void none) {
            take((ExecutableElement) element(tree.getMethodSelect()));
            return super.visitMethodInvocation(tree, none);
        }

        @Override
        public Void visitNewClass(NewClassTree tree, Void none) {
            c.isTrue("no class without a name", tree.getClassBody() == null);
            take((ExecutableElement) trees.getElement(getCurrentPath()));
            return super.visitNewClass(tree, none);
        }

        private void take(ExecutableElement called) {
            String owner = called.getEnclosingElement().toString();
            boolean own = owner.equals("RowsDrawn") || owner.startsWith("RowsDrawn.");
            boolean above = called.getKind() == ElementKind.CONSTRUCTOR && owner.equals("java.lang.Object");
            String name = called.getSimpleName().toString();
            boolean listed = LIBRARY.contains(owner + "." + name)
                || (NUMBERS.contains(owner) && called.getModifiers().contains(Modifier.STATIC) && !name.endsWith("Exact"));
            c.isTrue("the library has no " + told(called), own || above || listed);
            if (own && within != null) {
                calls.get(within).add(called);
            }
        }

        @Override
        public Void visitBinary(BinaryTree tree, Void none) {
            boolean joins = tree.getKind() == Tree.Kind.PLUS
                && (type(tree.getLeftOperand()) + type(tree.getRightOperand())).contains("String");
            c.isTrue("no texts joined by +: " + tree, !joins);
            return super.visitBinary(tree, none);
        }

        @Override
        public Void visitLambdaExpression(LambdaExpressionTree tree, Void none) {
            c.isTrue("no lambda: " + tree, false);
            return super.visitLambdaExpression(tree, none);
        }

        @Override
        public Void visitMemberReference(MemberReferenceTree tree, Void none) {
            c.isTrue("no method reference: " + tree, false);
            return super.visitMemberReference(tree, none);
        }
    }
}
