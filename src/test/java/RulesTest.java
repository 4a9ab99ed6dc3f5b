import com.sun.source.tree.ArrayAccessTree;
import com.sun.source.tree.AssertTree;
import com.sun.source.tree.BinaryTree;
import com.sun.source.tree.BlockTree;
import com.sun.source.tree.ClassTree;
import com.sun.source.tree.CompilationUnitTree;
import com.sun.source.tree.CompoundAssignmentTree;
import com.sun.source.tree.ConditionalExpressionTree;
import com.sun.source.tree.ExpressionTree;
import com.sun.source.tree.ImportTree;
import com.sun.source.tree.InstanceOfTree;
import com.sun.source.tree.LambdaExpressionTree;
import com.sun.source.tree.LiteralTree;
import com.sun.source.tree.MemberReferenceTree;
import com.sun.source.tree.MethodInvocationTree;
import com.sun.source.tree.MethodTree;
import com.sun.source.tree.NewArrayTree;
import com.sun.source.tree.NewClassTree;
import com.sun.source.tree.SynchronizedTree;
import com.sun.source.tree.ThrowTree;
import com.sun.source.tree.Tree;
import com.sun.source.tree.TryTree;
import com.sun.source.tree.VariableTree;
import com.sun.source.util.JavacTask;
import com.sun.source.util.TreePath;
import com.sun.source.util.TreePathScanner;
import com.sun.source.util.Trees;
import java.io.IOException;
import java.util.ArrayDeque;
import java.util.Deque;
import java.util.HashMap;
import java.util.HashSet;
import java.util.List;
import java.util.Map;
import java.util.Set;
import java.util.TreeMap;
import java.util.TreeSet;
import javax.lang.model.element.Element;
import javax.lang.model.element.ElementKind;
import javax.lang.model.element.Modifier;
import javax.lang.model.type.TypeMirror;
import javax.tools.JavaCompiler;
import javax.tools.ToolProvider;

/** Those rules of LANGUAGE.md that can be read off the source of the class, in the narrower form in which it keeps to them. */
final class RulesTest extends TreePathScanner<Void, Void> {
    private static final Set<String> TYPES = Set.of("int", "long", "boolean", "char", "double", "String", "int[]", "long[]", "long[][]", "void");
    private static final Set<String> LIBRARY = Set.of("String.length", "String.charAt", "Math.max", "Math.min", "Object.<init>");
    private static final Set<String> THROWN = Set.of("IllegalStateException", "IllegalArgumentException", "IndexOutOfBoundsException");
    /** The classes that look at every index; arrays are used in no other. */
    private static final Set<String> ROWS = Set.of("Ints", "Longs", "Table");

    private final Trees trees;
    private final CompilationUnitTree unit;
    private final Set<String> classes = new TreeSet<>();
    /** Which methods each method calls. */
    private final Map<String, Set<String>> calls = new TreeMap<>();

    private RulesTest(Trees trees, CompilationUnitTree unit) {
        this.trees = trees;
        this.unit = unit;
    }

    public static void main(String[] args) throws IOException {
        JavaCompiler compiler = ToolProvider.getSystemJavaCompiler();
        try (var files = compiler.getStandardFileManager(null, null, null)) {
            JavacTask task = (JavacTask) compiler.getTask(null, files, null, List.of("-proc:none"), null, files.getJavaFileObjects(Texts.CLASS));
            CompilationUnitTree unit = task.parse().iterator().next();
            task.analyze();
            RulesTest rules = new RulesTest(Trees.instance(task), unit);
            rules.collectClasses();
            rules.scan(unit, null);
            rules.callsAreShallow();
        }
        Checks.end("RulesTest");
    }

    private void collectClasses() {
        new TreePathScanner<Void, Void>() {
            @Override
            public Void visitClass(ClassTree tree, Void none) {
                classes.add(tree.getSimpleName().toString());
                return super.visitClass(tree, none);
            }
        }.scan(unit, null);
        Checks.due("rule 11: at most twelve classes", true, classes.size() <= 12);
    }

    private void never(int rule, Tree tree) {
        Checks.due("rule " + rule + ": line " + line(tree) + ": " + tree, "is not there", "is there");
    }

    private void must(int rule, String what, boolean isSo, Tree tree) {
        Checks.due("rule " + rule + ": line " + line(tree) + ": " + what, true, isSo);
    }

    private long line(Tree tree) {
        return unit.getLineMap().getLineNumber(trees.getSourcePositions().getStartPosition(unit, tree));
    }

    private long lastLine(Tree tree) {
        return unit.getLineMap().getLineNumber(trees.getSourcePositions().getEndPosition(unit, tree));
    }

    private Tree above(Class<? extends Tree> sort) {
        for (TreePath path = getCurrentPath().getParentPath(); path != null; path = path.getParentPath()) {
            if (sort.isInstance(path.getLeaf())) {
                return path.getLeaf();
            }
        }
        return null;
    }

    private String classAbove() {
        return ((ClassTree) above(ClassTree.class)).getSimpleName().toString();
    }

    private boolean isAllowedType(TypeMirror type) {
        String name = simple(type.toString());
        return TYPES.contains(name) || classes.contains(name);
    }

    private static String simple(String name) {
        return name.substring(name.lastIndexOf('.') + 1);
    }

    // ---- rules 1, 2 and 11: classes, methods and fields

    @Override
    public Void visitImport(ImportTree tree, Void none) {
        never(4, tree);
        return null;
    }

    @Override
    public Void visitClass(ClassTree tree, Void none) {
        int fields = 0;
        for (Tree member : tree.getMembers()) {
            if (member instanceof VariableTree field && !field.getModifiers().getFlags().contains(Modifier.STATIC)) {
                fields++;
                must(1, "a field is private", field.getModifiers().getFlags().contains(Modifier.PRIVATE), field);
            }
            if (member instanceof BlockTree) {
                never(5, member);
            }
        }
        must(11, "at most twenty fields", fields <= 20, tree);
        if (above(ClassTree.class) != null) {
            must(2, "a class inside is static and private", tree.getModifiers().getFlags().containsAll(Set.of(Modifier.STATIC, Modifier.PRIVATE)), tree);
            must(2, "a class inside stands in the public one alone", classAbove().equals("PastWatch"), tree);
        }
        return super.visitClass(tree, none);
    }

    @Override
    public Void visitMethod(MethodTree tree, Void none) {
        must(11, "at most seven parameters", tree.getParameters().size() <= 7, tree);
        must(11, "at most sixty lines", lastLine(tree) - line(tree) < 60, tree);
        boolean isFace = classAbove().equals("PastWatch") && tree.getModifiers().getFlags().contains(Modifier.PUBLIC);
        if (!isFace) {
            String name = tree.getName().toString();
            must(1, "no private method bears the name of a public one", !Texts.part("The public face").contains(" " + name + "("), tree);
            must(6, "no exception is declared", tree.getThrows().isEmpty(), tree);
        }
        calls.computeIfAbsent(trees.getElement(getCurrentPath()).getEnclosingElement() + "." + trees.getElement(getCurrentPath()), key -> new TreeSet<>());
        return super.visitMethod(tree, none);
    }

    @Override
    public Void visitVariable(VariableTree tree, Void none) {
        Element variable = trees.getElement(getCurrentPath());
        must(3, "a type that is allowed: " + variable.asType(), isAllowedType(variable.asType()), tree);
        if (variable.getModifiers().contains(Modifier.STATIC)) {
            must(5, "a static field is a constant", variable.getModifiers().contains(Modifier.FINAL), tree);
            must(5, "a constant's type", Set.of("int", "long", "String").contains(simple(variable.asType().toString())), tree);
        }
        return super.visitVariable(tree, none);
    }

    // ---- rules 2, 6 and 10: what is not there at all

    @Override
    public Void visitLambdaExpression(LambdaExpressionTree tree, Void none) {
        never(2, tree);
        return null;
    }

    @Override
    public Void visitMemberReference(MemberReferenceTree tree, Void none) {
        never(2, tree);
        return null;
    }

    @Override
    public Void visitTry(TryTree tree, Void none) {
        never(6, tree);
        return null;
    }

    @Override
    public Void visitSynchronized(SynchronizedTree tree, Void none) {
        never(6, tree);
        return null;
    }

    @Override
    public Void visitAssert(AssertTree tree, Void none) {
        never(6, tree);
        return null;
    }

    @Override
    public Void visitInstanceOf(InstanceOfTree tree, Void none) {
        never(7, tree);
        return null;
    }

    @Override
    public Void visitLiteral(LiteralTree tree, Void none) {
        if (tree.getValue() instanceof String text) {
            must(4, "signs 1 to 127", text.chars().allMatch(sign -> sign >= 1 && sign <= 127), tree);
        }
        return super.visitLiteral(tree, none);
    }

    // ---- rules 6, 7 and 12: throws, indices, divisors, new objects

    @Override
    public Void visitThrow(ThrowTree tree, Void none) {
        boolean isAllowed = tree.getExpression() instanceof NewClassTree made && THROWN.contains(made.getIdentifier().toString())
            && made.getArguments().size() <= 1 && made.getArguments().stream().allMatch(text -> text instanceof LiteralTree);
        must(6, "an exception of the document with a written text", isAllowed, tree);
        MethodTree method = (MethodTree) above(MethodTree.class);
        must(6, "a method of the face throws", method.getModifiers().getFlags().contains(Modifier.PUBLIC), tree);
        return super.visitThrow(tree, none);
    }

    @Override
    public Void visitArrayAccess(ArrayAccessTree tree, Void none) {
        must(7, "an array is used where every index is looked at", ROWS.contains(classAbove()), tree);
        return super.visitArrayAccess(tree, none);
    }

    @Override
    public Void visitBinary(BinaryTree tree, Void none) {
        if (tree.getKind() == Tree.Kind.DIVIDE || tree.getKind() == Tree.Kind.REMAINDER) {
            boolean isDouble = trees.getTypeMirror(getCurrentPath()).toString().equals("double");
            boolean isLookedAt = getCurrentPath().getParentPath().getLeaf() instanceof ConditionalExpressionTree choice
                && choice.getCondition().toString().equals(tree.getRightOperand() + " == 0") && choice.getFalseExpression() == tree;
            must(7, "a divisor is looked at", isDouble || isLookedAt, tree);
        }
        if (tree.getKind() == Tree.Kind.PLUS) {
            must(10, "no texts are joined by +", !simple(trees.getTypeMirror(getCurrentPath()).toString()).equals("String"), tree);
        }
        return super.visitBinary(tree, none);
    }

    @Override
    public Void visitCompoundAssignment(CompoundAssignmentTree tree, Void none) {
        must(7, "no division", tree.getKind() != Tree.Kind.DIVIDE_ASSIGNMENT && tree.getKind() != Tree.Kind.REMAINDER_ASSIGNMENT, tree);
        return super.visitCompoundAssignment(tree, none);
    }

    @Override
    public Void visitNewArray(NewArrayTree tree, Void none) {
        must(12, "arrays are made by rows alone", ROWS.contains(classAbove()), tree);
        must(7, "a length is looked at", tree.getDimensions().get(0).toString().startsWith("Math.max(0, "), tree);
        return super.visitNewArray(tree, none);
    }

    @Override
    public Void visitNewClass(NewClassTree tree, Void none) {
        MethodTree method = (MethodTree) above(MethodTree.class);
        boolean isMadeOnce = method == null || method.getName().contentEquals("<init>") || method.getName().contentEquals("packKeywords");
        must(12, "objects are made with the bench, or thrown", isMadeOnce || above(ThrowTree.class) != null, tree);
        return super.visitNewClass(tree, none);
    }

    // ---- rules 4, 8 and 11: calls

    @Override
    public Void visitMethodInvocation(MethodInvocationTree tree, Void none) {
        ExpressionTree select = tree.getMethodSelect();
        Element called = trees.getElement(new TreePath(getCurrentPath(), select));
        Element owner = called.getEnclosingElement();
        String name = owner + "." + called;
        if (classes.contains(owner.getSimpleName().toString())) {
            MethodTree method = (MethodTree) above(MethodTree.class);
            if (method != null) {
                Element caller = trees.getElement(TreePath.getPath(unit, method));
                calls.computeIfAbsent(caller.getEnclosingElement() + "." + caller, key -> new TreeSet<>()).add(name);
            }
        } else {
            must(4, "a call that is allowed: " + name, LIBRARY.contains(owner.getSimpleName() + "." + called.getSimpleName()), tree);
        }
        must(3, "no Math on doubles", called.getKind() != ElementKind.METHOD || !simple(owner.toString()).equals("Math")
            || !called.toString().contains("double") && !called.toString().contains("float"), tree);
        return super.visitMethodInvocation(tree, none);
    }

    /** Methods that call one another count as one: their recursion is bounded by the depth. */
    private void callsAreShallow() {
        Map<String, Integer> known = new HashMap<>();
        int deepest = 0;
        for (String method : calls.keySet()) {
            deepest = Math.max(deepest, depth(method, known));
        }
        Checks.due("rule 11: calls go at most eight deep", true, deepest <= 8);
        Set<String> groups = new HashSet<>();
        for (String method : calls.keySet()) {
            if (reached(method).contains(method)) {
                groups.add(method.substring(0, method.indexOf('(')));
            }
        }
        Checks.due("rule 8: methods that call one another", 14, groups.size());
        Checks.due("rule 8: they are the parser's", true, groups.stream().allMatch(name -> name.startsWith("PastWatch.Parser.")));
    }

    private Set<String> reached(String method) {
        Set<String> reached = new HashSet<>();
        Deque<String> work = new ArrayDeque<>(calls.get(method));
        while (!work.isEmpty()) {
            String next = work.pop();
            if (reached.add(next)) {
                work.addAll(calls.getOrDefault(next, Set.of()));
            }
        }
        return reached;
    }

    private int depth(String method, Map<String, Integer> known) {
        if (known.containsKey(method)) {
            return known.get(method);
        }
        Set<String> group = new HashSet<>(Set.of(method));
        for (String other : reached(method)) {
            if (calls.containsKey(other) && reached(other).contains(method)) {
                group.add(other);
            }
        }
        int deepest = 0;
        for (String member : group) {
            for (String next : calls.getOrDefault(member, Set.of())) {
                if (!group.contains(next)) {
                    deepest = Math.max(deepest, depth(next, known));
                }
            }
        }
        for (String member : group) {
            known.put(member, deepest + 1);
        }
        return deepest + 1;
    }
}
