import com.sun.source.tree.BinaryTree;
import com.sun.source.tree.ClassTree;
import com.sun.source.tree.CompilationUnitTree;
import com.sun.source.tree.DoWhileLoopTree;
import com.sun.source.tree.ExpressionTree;
import com.sun.source.tree.ForLoopTree;
import com.sun.source.tree.LiteralTree;
import com.sun.source.tree.MethodInvocationTree;
import com.sun.source.tree.MethodTree;
import com.sun.source.tree.NewArrayTree;
import com.sun.source.tree.NewClassTree;
import com.sun.source.tree.ThrowTree;
import com.sun.source.tree.Tree;
import com.sun.source.tree.VariableTree;
import com.sun.source.tree.WhileLoopTree;
import com.sun.source.util.JavacTask;
import com.sun.source.util.SourcePositions;
import com.sun.source.util.TreePath;
import com.sun.source.util.TreePathScanner;
import com.sun.source.util.Trees;
import java.io.IOException;
import java.nio.file.Files;
import java.nio.file.Path;
import java.util.ArrayDeque;
import java.util.Deque;
import java.util.EnumSet;
import java.util.HashSet;
import java.util.LinkedHashMap;
import java.util.LinkedHashSet;
import java.util.List;
import java.util.Map;
import java.util.Set;
import javax.lang.model.element.Element;
import javax.lang.model.element.Modifier;
import javax.tools.JavaCompiler;
import javax.tools.StandardJavaFileManager;
import javax.tools.ToolProvider;

/**
 * Holds the rules of LANGUAGE.md against the program as the compiler reads it. Where the program
 * keeps to less than a rule leaves (it uses no library, no recursion, no try), the test asks for
 * that, so that whoever needs more looks the rule up first.
 */
public final class RulesTest extends TreePathScanner<Void, Void> {
    private static final Path PROGRAM = Path.of("src/main/java/PathProfiler.java");
    private static final Set<String> EXCEPTIONS = Set.of("IllegalStateException",
            "IllegalArgumentException", "IndexOutOfBoundsException", "ArithmeticException",
            "UnsupportedOperationException", "NoSuchElementException", "RuntimeException");
    private static final Set<String> PLAIN_TYPES = Set.of("void", "int", "long", "boolean",
            "double", "int[]", "boolean[]");
    private static final Set<Tree.Kind> LEFT_OUT = EnumSet.of(Tree.Kind.LAMBDA_EXPRESSION,
            Tree.Kind.MEMBER_REFERENCE, Tree.Kind.TRY, Tree.Kind.SYNCHRONIZED, Tree.Kind.ASSERT,
            Tree.Kind.INSTANCE_OF, Tree.Kind.IMPORT, Tree.Kind.PACKAGE, Tree.Kind.TYPE_PARAMETER,
            Tree.Kind.ANNOTATION, Tree.Kind.ENHANCED_FOR_LOOP);
    private static final int MAX_PARAMETERS = 7;
    private static final int MAX_LINES = 60;
    private static final int MAX_CALL_DEPTH = 8;
    private static final int MAX_CLASSES = 12;
    private static final int MAX_FIELDS = 20;

    private final Trees trees;
    private final CompilationUnitTree unit;
    private final Set<String> ownTypes = new HashSet<>();
    private final Set<String> faceNames = new HashSet<>();
    private final Map<Element, Set<Element>> calls = new LinkedHashMap<>();
    private final Deque<Element> open = new ArrayDeque<>();

    private RulesTest(Trees trees, CompilationUnitTree unit) {
        this.trees = trees;
        this.unit = unit;
    }

    private static void rule(int number, String what, boolean holds) {
        Script.due("rule " + number + ": " + what, holds ? "holds" : "broken", "holds");
    }

    private String at(Tree tree) {
        return " (line " + lineOf(trees.getSourcePositions().getStartPosition(unit, tree)) + ")";
    }

    private long lineOf(long position) {
        return unit.getLineMap().getLineNumber(position);
    }

    @Override
    public Void scan(Tree tree, Void none) {
        if (tree != null) {
            rule(2, tree.getKind() + " is not in the program", !LEFT_OUT.contains(tree.getKind()));
        }
        return super.scan(tree, none);
    }

    @Override
    public Void visitClass(ClassTree type, Void none) {
        boolean isFace = type.getSimpleName().contentEquals("PathProfiler");
        Set<Modifier> modifiers = type.getModifiers().getFlags();
        boolean isNested = getCurrentPath().getParentPath().getLeaf() instanceof ClassTree;
        rule(1, type.getSimpleName() + " is the face, or static and not public", isFace
                ? modifiers.equals(EnumSet.of(Modifier.PUBLIC, Modifier.FINAL))
                : isNested && modifiers.contains(Modifier.STATIC)
                        && !modifiers.contains(Modifier.PUBLIC));
        int fields = 0;
        for (Tree member : type.getMembers()) {
            rule(5, "no initialiser block" + at(member), member.getKind() != Tree.Kind.BLOCK);
            if (member instanceof VariableTree field
                    && !field.getModifiers().getFlags().contains(Modifier.STATIC)) {
                fields++;
            }
        }
        rule(11, type.getSimpleName() + " has some twenty fields at most", fields <= MAX_FIELDS);
        return super.visitClass(type, none);
    }

    @Override
    public Void visitMethod(MethodTree method, Void none) {
        Element element = trees.getElement(getCurrentPath());
        SourcePositions positions = trees.getSourcePositions();
        long lines = 1 + lineOf(positions.getEndPosition(unit, method))
                - lineOf(positions.getStartPosition(unit, method));
        rule(1, method.getName() + " does not share a name of the face" + at(method),
                isConstructor(method) || element.getModifiers().contains(Modifier.PUBLIC)
                || !faceNames.contains(method.getName().toString()));
        rule(3, "the answer of " + method.getName(), isConstructor(method)
                || isAllowed(method.getReturnType()));
        rule(11, method.getName() + " takes at most seven parameters",
                method.getParameters().size() <= MAX_PARAMETERS);
        rule(11, method.getName() + " has some sixty lines at most", lines <= MAX_LINES);
        calls.put(element, new LinkedHashSet<>());
        open.push(element);
        super.visitMethod(method, none);
        open.pop();
        return null;
    }

    private static boolean isConstructor(MethodTree method) {
        return method.getName().contentEquals("<init>");
    }

    private boolean isAllowed(Tree type) {
        return PLAIN_TYPES.contains(type.toString()) || ownTypes.contains(type.toString());
    }

    @Override
    public Void visitVariable(VariableTree variable, Void none) {
        Set<Modifier> modifiers = variable.getModifiers().getFlags();
        rule(3, "the type of " + variable + at(variable), isAllowed(variable.getType()));
        if (modifiers.contains(Modifier.STATIC)) {
            rule(5, variable + " is a constant", modifiers.contains(Modifier.FINAL)
                    && Set.of("int", "long").contains(variable.getType().toString())
                    && variable.getInitializer() != null);
        }
        return super.visitVariable(variable, none);
    }

    /** A call in the program is a call of the program's own methods. */
    @Override
    public Void visitMethodInvocation(MethodInvocationTree call, Void none) {
        Element called = trees.getElement(new TreePath(getCurrentPath(), call.getMethodSelect()));
        boolean isSuper = call.getMethodSelect().toString().equals("super");
        rule(4, call + " is no call of a library" + at(call), isSuper || isOwn(called));
        if (!isSuper && !open.isEmpty()) {
            calls.get(open.peek()).add(called);
        }
        return super.visitMethodInvocation(call, none);
    }

    private boolean isOwn(Element element) {
        return element != null
                && ownTypes.contains(element.getEnclosingElement().getSimpleName().toString());
    }

    @Override
    public Void visitThrow(ThrowTree statement, Void none) {
        boolean holds = statement.getExpression() instanceof NewClassTree made
                && EXCEPTIONS.contains(made.getIdentifier().toString())
                && made.getArguments().size() == 1
                && made.getArguments().get(0).getKind() == Tree.Kind.STRING_LITERAL;
        rule(6, statement + at(statement), holds && !isInConstructor());
        return super.visitThrow(statement, none);
    }

    /** Whether the code at hand runs while an object is made. */
    private boolean isInConstructor() {
        return open.isEmpty() || open.peek().getSimpleName().contentEquals("<init>");
    }

    // Everything is made with the profiler, so what a run keeps does not grow with its calls.
    @Override
    public Void visitNewClass(NewClassTree made, Void none) {
        boolean isThrown = getCurrentPath().getParentPath().getLeaf() instanceof ThrowTree;
        rule(12, made + " is made in a constructor" + at(made), isThrown
                || isInConstructor() && ownTypes.contains(made.getIdentifier().toString()));
        rule(2, made + " is no anonymous class", made.getClassBody() == null);
        return super.visitNewClass(made, none);
    }

    @Override
    public Void visitNewArray(NewArrayTree made, Void none) {
        rule(12, made + " is made in a constructor" + at(made), isInConstructor());
        rule(3, made + " has one dimension", made.getDimensions().size() == 1);
        rule(7, made + " has a length that is a constant", made.getDimensions().size() == 1
                && made.getDimensions().get(0).toString().matches("MAX_[A-Z_]+"));
        return super.visitNewArray(made, none);
    }

    @Override
    public Void visitForLoop(ForLoopTree loop, Void none) {
        rule(9, "the loop ends" + at(loop), isBounded(loop.getCondition())
                && loop.getUpdate().size() == 1);
        return super.visitForLoop(loop, none);
    }

    @Override
    public Void visitWhileLoop(WhileLoopTree loop, Void none) {
        rule(9, "the loop ends" + at(loop), isBounded(loop.getCondition()));
        return super.visitWhileLoop(loop, none);
    }

    @Override
    public Void visitDoWhileLoop(DoWhileLoopTree loop, Void none) {
        rule(9, "the loop ends" + at(loop), isBounded(loop.getCondition()));
        return super.visitDoWhileLoop(loop, none);
    }

    /** A condition that stops the loop at a bound, whatever else it asks. */
    private static boolean isBounded(ExpressionTree condition) {
        return condition != null && condition.toString().matches("[^|]*(<|>)[^|]*");
    }

    @Override
    public Void visitBinary(BinaryTree operation, Void none) {
        if (EnumSet.of(Tree.Kind.DIVIDE, Tree.Kind.REMAINDER).contains(operation.getKind())) {
            String divisor = operation.getRightOperand().toString();
            rule(7, operation + " has a divisor that was looked at" + at(operation),
                    Set.of("3", "MAX_EDGES", "(double)walk.total").contains(divisor));
        }
        return super.visitBinary(operation, none);
    }

    @Override
    public Void visitLiteral(LiteralTree literal, Void none) {
        rule(7, "no reference is null" + at(literal),
                literal.getKind() != Tree.Kind.NULL_LITERAL);
        return super.visitLiteral(literal, none);
    }

    private void collectNames() {
        for (Tree type : unit.getTypeDecls()) {
            collectNames((ClassTree) type);
        }
        rule(11, "some twelve classes at most", ownTypes.size() <= MAX_CLASSES);
    }

    private void collectNames(ClassTree type) {
        ownTypes.add(type.getSimpleName().toString());
        for (Tree member : type.getMembers()) {
            if (member instanceof ClassTree inside) {
                collectNames(inside);
            } else if (member instanceof MethodTree method
                    && method.getModifiers().getFlags().contains(Modifier.PUBLIC)) {
                faceNames.add(method.getName().toString());
            }
        }
    }

    /** How many calls stand open at most, this one included; beyond all bounds in a recursion. */
    private int depthOf(Element method, Set<Element> above) {
        if (!above.add(method)) {
            return MAX_CALL_DEPTH + 1;
        }
        int deepest = 0;
        for (Element called : calls.getOrDefault(method, Set.of())) {
            deepest = Math.max(deepest, depthOf(called, above));
        }
        above.remove(method);
        return 1 + deepest;
    }

    private void look() {
        rule(1, "one class stands in the file", unit.getTypeDecls().size() == 1);
        rule(1, "there is no package", unit.getPackageName() == null);
        collectNames();
        scan(unit, null);
        for (Element method : calls.keySet()) {
            rule(8, method + " goes at most eight calls deep, and not into itself",
                    depthOf(method, new HashSet<>()) <= MAX_CALL_DEPTH);
        }
    }

    public static void main(String[] args) throws IOException {
        JavaCompiler compiler = ToolProvider.getSystemJavaCompiler();
        try (StandardJavaFileManager files = compiler.getStandardFileManager(null, null, null)) {
            JavacTask task = (JavacTask) compiler.getTask(null, files, null, List.of("-proc:none"),
                    null, files.getJavaFileObjects(PROGRAM));
            CompilationUnitTree unit = task.parse().iterator().next();
            task.analyze();
            new RulesTest(Trees.instance(task), unit).look();
        }
        rule(4, "all signs are 1 to 127", Files.readString(PROGRAM).matches("[\\x01-\\x7f]*"));
        Script.end();
    }
}
