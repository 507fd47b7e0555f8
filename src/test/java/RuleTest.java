import com.sun.source.tree.BinaryTree;
import com.sun.source.tree.ClassTree;
import com.sun.source.tree.CompilationUnitTree;
import com.sun.source.tree.ConditionalExpressionTree;
import com.sun.source.tree.ExpressionTree;
import com.sun.source.tree.ForLoopTree;
import com.sun.source.tree.IfTree;
import com.sun.source.tree.LambdaExpressionTree;
import com.sun.source.tree.LiteralTree;
import com.sun.source.tree.MemberReferenceTree;
import com.sun.source.tree.MethodInvocationTree;
import com.sun.source.tree.MethodTree;
import com.sun.source.tree.Tree;
import com.sun.source.tree.VariableTree;
import com.sun.source.tree.WhileLoopTree;
import com.sun.source.util.JavacTask;
import com.sun.source.util.TreePath;
import com.sun.source.util.TreePathScanner;
import com.sun.source.util.Trees;
import java.nio.file.Path;
import java.util.Collections;
import java.util.HashMap;
import java.util.HashSet;
import java.util.List;
import java.util.Map;
import java.util.Set;
import java.util.TreeMap;
import java.util.TreeSet;
import javax.lang.model.element.Element;
import javax.lang.model.element.ExecutableElement;
import javax.lang.model.type.TypeMirror;
import javax.tools.JavaCompiler;
import javax.tools.StandardJavaFileManager;
import javax.tools.ToolProvider;

/** The rules of LANGUAGE.md that want the source's tree: of 2, 3, 4, 7 (divisors), 9 and 11 (depth of calls). */
public final class RuleTest {
    private static final Path SOURCE = Path.of("src/main/java/MirrorLies.java");
    private static final Set<String> LIBRARY = Set.of("java.lang.String.length", "java.lang.String.charAt",
        "java.lang.Integer.bitCount", "java.lang.Math.min", "java.lang.Math.max", "java.lang.System.arraycopy",
        "java.util.Arrays.fill");
    private static final Set<String> TYPES = Set.of("int", "long", "byte", "char", "boolean", "int[]", "long[]",
        "byte[]", "boolean[]", "int[][]", "java.lang.String");
    private static final int DEEPEST = 8;

    private static int wrong;

    private static void check(boolean holds, int rule, String what) {
        if (!holds) {
            wrong++;
            System.out.println("RuleTest, rule " + rule + ": " + what);
        }
    }

    public static void main(String[] args) throws Exception {
        JavaCompiler compiler = ToolProvider.getSystemJavaCompiler();
        try (StandardJavaFileManager files = compiler.getStandardFileManager(null, null, null)) {
            JavacTask task = (JavacTask) compiler.getTask(null, files, null, null, null,
                files.getJavaFileObjects(SOURCE));
            CompilationUnitTree unit = task.parse().iterator().next();
            task.analyze();
            Walk walk = new Walk(Trees.instance(task));
            walk.scan(unit, null);
            check(walk.calls.size() > 100 && walk.divisions > 5, 11, "the walk did not see the class");
            depths(walk.calls);
        }
        System.out.println("RuleTest: " + wrong + " rules broken");
        if (wrong != 0) {
            System.exit(1);
        }
    }

    /** Looks at every place of the class and notes which method calls which. */
    private static final class Walk extends TreePathScanner<Void, Void> {
        private final Trees trees;
        private final Map<String, Set<String>> calls = new TreeMap<>();
        private String method = "fields";
        private int divisions;

        Walk(Trees trees) {
            this.trees = trees;
        }

        @Override
        public Void visitMethod(MethodTree tree, Void nothing) {
            String before = method;
            method = name(trees.getElement(getCurrentPath()));
            calls.putIfAbsent(method, new TreeSet<>());
            super.visitMethod(tree, nothing);
            method = before;
            return null;
        }

        @Override
        public Void visitClass(ClassTree tree, Void nothing) {
            Tree around = getCurrentPath().getParentPath().getLeaf();
            boolean placed = around instanceof CompilationUnitTree || around instanceof ClassTree;
            check(placed, 2, "a class inside a method: " + tree.getSimpleName());
            return super.visitClass(tree, nothing);
        }

        @Override
        public Void visitLambdaExpression(LambdaExpressionTree tree, Void nothing) {
            check(false, 2, "a lambda: " + tree);
            return super.visitLambdaExpression(tree, nothing);
        }

        @Override
        public Void visitMemberReference(MemberReferenceTree tree, Void nothing) {
            check(false, 2, "a method reference: " + tree);
            return super.visitMemberReference(tree, nothing);
        }

        @Override
        public Void visitVariable(VariableTree tree, Void nothing) {
            TypeMirror type = trees.getTypeMirror(getCurrentPath());
            String told = type.toString();
            check(TYPES.contains(told) || told.startsWith("MirrorLies."), 3, "a " + told + ": " + tree.getName());
            return super.visitVariable(tree, nothing);
        }

        @Override
        public Void visitMethodInvocation(MethodInvocationTree tree, Void nothing) {
            Element called = trees.getElement(getCurrentPath());
            String to = name(called);
            if (to.startsWith("MirrorLies.")) {
                calls.computeIfAbsent(method, m -> new TreeSet<>()).add(to);
            } else {
                check(LIBRARY.contains(to) || to.equals("java.lang.Object.<init>"), 4, to + " in " + method);
            }
            return super.visitMethodInvocation(tree, nothing);
        }

        @Override
        public Void visitBinary(BinaryTree tree, Void nothing) {
            boolean divides = tree.getKind() == Tree.Kind.DIVIDE || tree.getKind() == Tree.Kind.REMAINDER;
            if (divides && !(tree.getRightOperand() instanceof LiteralTree)) {
                check(isTested(tree.getRightOperand().toString()), 7, "a divisor not looked at in " + method + ": " + tree);
            }
            divisions += divides ? 1 : 0;
            return super.visitBinary(tree, nothing);
        }

        @Override
        public Void visitForLoop(ForLoopTree tree, Void nothing) {
            check(tree.getCondition() != null && !tree.getUpdate().isEmpty(), 9, "a loop without an end in " + method);
            return super.visitForLoop(tree, nothing);
        }

        @Override
        public Void visitWhileLoop(WhileLoopTree tree, Void nothing) {
            check(tree.getCondition().toString().contains(" < "), 9, "a loop without a bound in " + method);
            return super.visitWhileLoop(tree, nothing);
        }

        /** Whether a test of the divisor against 0 stands around the place, or ahead of it as an if that answers. */
        private boolean isTested(String divisor) {
            Tree inner = null;
            for (TreePath path = getCurrentPath(); path != null; path = path.getParentPath()) {
                Tree tree = path.getLeaf();
                if (tree instanceof ConditionalExpressionTree t && tests(t.getCondition(), divisor)
                    || tree instanceof IfTree i && tests(i.getCondition(), divisor)
                    || tree instanceof ForLoopTree f && tests(f.getCondition(), divisor)) {
                    return true;
                }
                if (tree instanceof MethodTree m) {
                    return answersAhead(m, inner, divisor);
                }
                inner = tree;
            }
            return false;
        }

        private static boolean answersAhead(MethodTree method, Tree last, String divisor) {
            for (Tree line : method.getBody().getStatements()) {
                if (line instanceof IfTree i && tests(i.getCondition(), divisor)
                    && i.getThenStatement().toString().contains("return")) {
                    return true;
                }
                if (line == last) {
                    return false;
                }
            }
            return false;
        }

        private static boolean tests(ExpressionTree condition, String divisor) {
            String text = condition == null ? "" : condition.toString();
            return List.of(" > 0", " != 0", " == 0").stream().anyMatch(test -> text.contains(divisor + test));
        }

        private static String name(Element element) {
            ExecutableElement method = (ExecutableElement) element;
            return method.getEnclosingElement() + "." + method.getSimpleName();
        }
    }

    /** Methods that call one another count as one: how many stand open at once apart from recursion. */
    private static void depths(Map<String, Set<String>> calls) {
        Map<String, Set<String>> reached = new HashMap<>();
        calls.keySet().forEach(method -> reached.put(method, reachedFrom(method, calls)));
        Map<String, Integer> known = new HashMap<>();
        for (String method : calls.keySet()) {
            int depth = depth(method, calls, reached, known);
            check(depth <= DEEPEST, 11, method + " goes " + depth + " deep");
        }
    }

    private static Set<String> reachedFrom(String method, Map<String, Set<String>> calls) {
        Set<String> found = new HashSet<>();
        List<String> open = new java.util.ArrayList<>(calls.get(method));
        while (!open.isEmpty()) {
            String next = open.remove(open.size() - 1);
            if (found.add(next)) {
                open.addAll(calls.getOrDefault(next, Collections.emptySet()));
            }
        }
        return found;
    }

    private static int depth(String method, Map<String, Set<String>> calls, Map<String, Set<String>> reached,
        Map<String, Integer> known) {
        if (known.containsKey(method)) {
            return known.get(method);
        }
        Set<String> ring = new HashSet<>(Set.of(method));
        reached.get(method).stream().filter(other -> reached.getOrDefault(other, Set.of()).contains(method))
            .forEach(ring::add);
        int deepest = 0;
        for (String one : ring) {
            for (String next : calls.get(one)) {
                if (!ring.contains(next) && calls.containsKey(next)) {
                    deepest = Math.max(deepest, depth(next, calls, reached, known));
                }
            }
        }
        for (String one : ring) {
            known.put(one, deepest + 1);
        }
        return deepest + 1;
    }
}
