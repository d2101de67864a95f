import com.sun.source.tree.BinaryTree;
import com.sun.source.tree.BlockTree;
import com.sun.source.tree.ClassTree;
import com.sun.source.tree.CompilationUnitTree;
import com.sun.source.tree.CompoundAssignmentTree;
import com.sun.source.tree.ExpressionTree;
import com.sun.source.tree.ForLoopTree;
import com.sun.source.tree.IdentifierTree;
import com.sun.source.tree.LiteralTree;
import com.sun.source.tree.MethodInvocationTree;
import com.sun.source.tree.MethodTree;
import com.sun.source.tree.NewArrayTree;
import com.sun.source.tree.NewClassTree;
import com.sun.source.tree.ParenthesizedTree;
import com.sun.source.tree.PrimitiveTypeTree;
import com.sun.source.tree.StatementTree;
import com.sun.source.tree.ThrowTree;
import com.sun.source.tree.Tree;
import com.sun.source.tree.Tree.Kind;
import com.sun.source.tree.TypeCastTree;
import com.sun.source.tree.UnaryTree;
import com.sun.source.tree.VariableTree;
import com.sun.source.tree.WhileLoopTree;
import com.sun.source.util.JavacTask;
import com.sun.source.util.TreePath;
import com.sun.source.util.TreePathScanner;
import com.sun.source.util.TreeScanner;
import com.sun.source.util.Trees;
import java.io.IOException;
import java.nio.file.Path;
import java.util.HashMap;
import java.util.HashSet;
import java.util.List;
import java.util.Map;
import java.util.Set;
import java.util.TreeSet;
import javax.lang.model.element.Element;
import javax.lang.model.element.ElementKind;
import javax.lang.model.element.Modifier;
import javax.lang.model.type.TypeKind;
import javax.lang.model.type.TypeMirror;
import javax.tools.JavaCompiler;
import javax.tools.StandardJavaFileManager;
import javax.tools.ToolProvider;

/** The program keeps to the rules of LANGUAGE.md that its syntax shows, and to less where it needs less. */
public final class LanguageTest extends TreePathScanner<Void, Void> {
    private static final Path PROGRAM = Path.of("src/main/java/RouteBudget.java");
    private static final int MOST_DEPTH = 8;
    private static final int MOST_LINES = 60;
    private static final int MOST_CLASSES = 12;
    /** What is used of the library. */
    private static final Set<String> LIBRARY = Set.of("Math.min", "Integer.bitCount", "System.arraycopy", "Arrays.fill",
            "String.length", "String.charAt", "Object.<init>");
    private static final Set<String> THROWN = Set.of("IllegalStateException", "IllegalArgumentException",
            "IndexOutOfBoundsException", "NoSuchElementException");
    private static final Set<Kind> LEFT_OUT = Set.of(Kind.LAMBDA_EXPRESSION, Kind.MEMBER_REFERENCE, Kind.TRY, Kind.CATCH,
            Kind.SYNCHRONIZED, Kind.ASSERT, Kind.INSTANCE_OF, Kind.DO_WHILE_LOOP, Kind.REMAINDER, Kind.DIVIDE_ASSIGNMENT,
            Kind.REMAINDER_ASSIGNMENT, Kind.ENHANCED_FOR_LOOP, Kind.LABELED_STATEMENT, Kind.SWITCH_EXPRESSION);

    private final Checks checks = new Checks();
    private final Trees trees;
    private final CompilationUnitTree unit;
    private final Map<String, Set<String>> calls = new HashMap<>();
    private final Map<String, Integer> depths = new HashMap<>();
    private int classes = 0;
    private int loops = 0;
    private int throwsSeen = 0;

    private LanguageTest(Trees trees, CompilationUnitTree unit) {
        this.trees = trees;
        this.unit = unit;
    }

    public static void main(String[] args) throws IOException {
        JavaCompiler compiler = ToolProvider.getSystemJavaCompiler();
        try (StandardJavaFileManager files = compiler.getStandardFileManager(null, null, null)) {
            JavacTask task = (JavacTask) compiler.getTask(null, files, null, List.of("-proc:none"), null,
                    files.getJavaFileObjects(PROGRAM));
            CompilationUnitTree unit = task.parse().iterator().next();
            task.analyze();
            LanguageTest test = new LanguageTest(Trees.instance(task), unit);
            test.scan(new TreePath(unit), null);
            test.end();
        }
    }

    private void end() {
        for (String method : calls.keySet()) {
            int depth = depthOf(method, new HashSet<>());
            checks.yes("rule 11: calls from " + method + " go " + depth + " deep", depth <= MOST_DEPTH);
        }
        checks.yes("rule 11: " + classes + " classes", classes <= MOST_CLASSES);
        // So that a scan that sees nothing does not pass.
        checks.yes("the scan sees the program", classes > 5 && loops > 20 && throwsSeen > 20 && calls.size() > 100
                && depths.get("RouteBudget.calm") > 4);
        checks.end();
    }

    /** How many calls stand open at once, the method's own and the library's too; rule 8 would allow recursion. */
    private int depthOf(String method, Set<String> open) {
        if (!open.add(method)) {
            checks.yes("no recursion of " + method, false);
            return 0;
        }
        int deepest = 0;
        if (depths.containsKey(method)) {
            deepest = depths.get(method) - 1;
        } else {
            for (String called : calls.getOrDefault(method, Set.of())) {
                deepest = Math.max(deepest, depthOf(called, open));
            }
        }
        open.remove(method);
        depths.put(method, deepest + 1);
        return deepest + 1;
    }

    private String at(Tree tree) {
        long start = trees.getSourcePositions().getStartPosition(unit, tree);
        return "line " + unit.getLineMap().getLineNumber(start) + ": " + tree.toString().lines().findFirst().orElse("");
    }

    private long lines(Tree tree) {
        long start = trees.getSourcePositions().getStartPosition(unit, tree);
        long end = trees.getSourcePositions().getEndPosition(unit, tree);
        return unit.getLineMap().getLineNumber(end) - unit.getLineMap().getLineNumber(start) + 1;
    }

    private boolean isInside(Kind kind) {
        for (Tree tree : getCurrentPath()) {
            if (tree.getKind() == kind) {
                return true;
            }
        }
        return false;
    }

    /** The method round the present place, null in the initialiser of a field. */
    private Element method() {
        for (TreePath path = getCurrentPath(); path != null; path = path.getParentPath()) {
            if (path.getLeaf().getKind() == Kind.METHOD) {
                return trees.getElement(path);
            }
        }
        return null;
    }

    private static String nameOf(Element method) {
        return method.getEnclosingElement().getSimpleName() + "." + method.getSimpleName();
    }

    private void noteCall(Element called) {
        Element from = method();
        if (from != null && called != null) {
            calls.computeIfAbsent(nameOf(from), name -> new TreeSet<>()).add(nameOf(called));
        }
    }

    @Override
    public Void scan(Tree tree, Void none) {
        if (tree != null) {
            checks.yes("not needed or not allowed, " + at(tree), !LEFT_OUT.contains(tree.getKind()));
        }
        return super.scan(tree, none);
    }

    @Override
    public Void visitClass(ClassTree tree, Void none) {
        classes++;
        Set<Modifier> modifiers = tree.getModifiers().getFlags();
        boolean isOuter = tree.getSimpleName().contentEquals("RouteBudget");
        checks.yes("rules 1 and 2: " + tree.getSimpleName(), tree.getKind() == Kind.CLASS && (isOuter
                ? modifiers.contains(Modifier.PUBLIC) : modifiers.contains(Modifier.STATIC)) && !isInside(Kind.METHOD));
        for (Tree member : tree.getMembers()) {
            checks.yes("rule 5: no block of its own in a class, " + at(member), !(member instanceof BlockTree));
        }
        return super.visitClass(tree, none);
    }

    @Override
    public Void visitMethod(MethodTree tree, Void none) {
        Element method = trees.getElement(getCurrentPath());
        calls.computeIfAbsent(nameOf(method), name -> new TreeSet<>());
        long overloads = method.getEnclosingElement().getEnclosedElements().stream()
                .filter(other -> other.getSimpleName().equals(method.getSimpleName())).count();
        checks.yes(nameOf(method) + " has a name of its own, so that the calls below are told apart", overloads == 1);
        checks.yes("rule 11: " + nameOf(method) + " has " + lines(tree) + " lines", lines(tree) <= MOST_LINES);
        checks.yes("rule 11: parameters of " + nameOf(method), tree.getParameters().size() <= 7);
        checks.yes("rule 3: result of " + nameOf(method), tree.getReturnType() == null
                || isAllowed(trees.getTypeMirror(new TreePath(getCurrentPath(), tree.getReturnType()))));
        return super.visitMethod(tree, none);
    }

    @Override
    public Void visitVariable(VariableTree tree, Void none) {
        Element variable = trees.getElement(getCurrentPath());
        checks.yes("rule 3: " + at(tree), isAllowed(variable.asType()));
        if (variable.getModifiers().contains(Modifier.STATIC)) {
            checks.yes("rule 5: " + at(tree), variable.getModifiers().contains(Modifier.FINAL)
                    && variable.asType().getKind() == TypeKind.INT && tree.getInitializer() != null);
        }
        return super.visitVariable(tree, none);
    }

    /** Numbers, truths, texts, own classes, and the arrays that rule 3 tells. */
    private static boolean isAllowed(TypeMirror type) {
        String name = type.toString();
        return Set.of("int", "byte", "boolean", "float", "void", "int[]", "byte[]", "int[][]", "java.lang.String").contains(name)
                || name.matches("RouteBudget\\.\\w+(\\[\\])?");
    }

    @Override
    public Void visitMethodInvocation(MethodInvocationTree tree, Void none) {
        Element called = trees.getElement(getCurrentPath());
        String name = nameOf(called);
        boolean isOwn = called.getEnclosingElement().toString().startsWith("RouteBudget");
        checks.yes("rule 4: " + name + ", " + at(tree), isOwn || LIBRARY.contains(name));
        noteCall(called);
        return super.visitMethodInvocation(tree, none);
    }

    /** Rules 6 and 12: exceptions are made where they are thrown, all other objects in constructors and fields. */
    @Override
    public Void visitNewClass(NewClassTree tree, Void none) {
        Element made = trees.getElement(getCurrentPath());
        Tree parent = getCurrentPath().getParentPath().getLeaf();
        if (parent.getKind() != Kind.THROW) {
            checks.yes("rule 12: " + at(tree), made.getEnclosingElement().toString().startsWith("RouteBudget."));
            checkMade(tree);
        }
        noteCall(made);
        checks.yes("rule 2: no class without a name, " + at(tree), tree.getClassBody() == null);
        return super.visitNewClass(tree, none);
    }

    @Override
    public Void visitNewArray(NewArrayTree tree, Void none) {
        checkMade(tree);
        for (ExpressionTree length : tree.getDimensions()) {
            checks.yes("rule 7: a length that is above 0 for sure, " + at(tree), length.toString().matches("MOST_\\w+( \\+ 1)?"));
        }
        return super.visitNewArray(tree, none);
    }

    private void checkMade(Tree tree) {
        Element method = method();
        checks.yes("rule 12: made in a constructor or a field, " + at(tree),
                method == null || method.getKind() == ElementKind.CONSTRUCTOR);
    }

    @Override
    public Void visitThrow(ThrowTree tree, Void none) {
        throwsSeen++;
        Element method = method();
        checks.yes("rule 6: no throw in a constructor, " + at(tree),
                method != null && method.getKind() == ElementKind.METHOD);
        boolean isAllowed = tree.getExpression() instanceof NewClassTree made
                && THROWN.contains(made.getIdentifier().toString()) && made.getArguments().size() == 1
                && made.getArguments().get(0) instanceof LiteralTree;
        checks.yes("rule 6: " + at(tree), isAllowed);
        return super.visitThrow(tree, none);
    }

    /** Rule 7: no divisor can be 0 if nothing but floats is divided. Rule 10: texts are not joined by a sign. */
    @Override
    public Void visitBinary(BinaryTree tree, Void none) {
        TypeMirror type = trees.getTypeMirror(getCurrentPath());
        if (tree.getKind() == Kind.DIVIDE) {
            checks.yes("rule 7: " + at(tree), type.getKind() == TypeKind.FLOAT);
        }
        checks.yes("rule 10: " + at(tree), type.getKind().isPrimitive());
        return super.visitBinary(tree, none);
    }

    @Override
    public Void visitTypeCast(TypeCastTree tree, Void none) {
        checks.yes("rule 7: " + at(tree), tree.getType() instanceof PrimitiveTypeTree);
        return super.visitTypeCast(tree, none);
    }

    @Override
    public Void visitForLoop(ForLoopTree tree, Void none) {
        loops++;
        Set<String> counted = new HashSet<>();
        for (StatementTree update : tree.getUpdate()) {
            counted.addAll(changedIn(update));
        }
        checks.yes("rule 9: " + at(tree), !counted.isEmpty() && isBound(tree.getCondition(), counted));
        return super.visitForLoop(tree, none);
    }

    @Override
    public Void visitWhileLoop(WhileLoopTree tree, Void none) {
        loops++;
        checks.yes("rule 9: " + at(tree), isBound(tree.getCondition(), changedIn(tree.getStatement())));
        return super.visitWhileLoop(tree, none);
    }

    /** The variables that a part of the program counts up or down. */
    private static Set<String> changedIn(Tree part) {
        Set<String> changed = new HashSet<>();
        new TreeScanner<Void, Void>() {
            @Override
            public Void visitUnary(UnaryTree tree, Void none) {
                if (tree.getExpression() instanceof IdentifierTree && tree.toString().matches(".*(\\+\\+|--).*")) {
                    changed.add(tree.getExpression().toString());
                }
                return super.visitUnary(tree, none);
            }

            @Override
            public Void visitCompoundAssignment(CompoundAssignmentTree tree, Void none) {
                changed.add(tree.getVariable().toString());
                return super.visitCompoundAssignment(tree, none);
            }
        }.scan(part, null);
        return changed;
    }

    /** Whether a loop goes on only while one of its counters stays on its side of a bound. */
    private static boolean isBound(ExpressionTree condition, Set<String> counted) {
        ExpressionTree part = condition;
        while (part.getKind() == Kind.PARENTHESIZED) {
            part = ((ParenthesizedTree) part).getExpression();
        }
        if (!(part instanceof BinaryTree both)) {
            return false;
        }
        if (part.getKind() == Kind.CONDITIONAL_AND) {
            return isBound(both.getLeftOperand(), counted) || isBound(both.getRightOperand(), counted);
        }
        boolean isComparison = Set.of(Kind.LESS_THAN, Kind.LESS_THAN_EQUAL, Kind.GREATER_THAN_EQUAL).contains(part.getKind());
        return isComparison && counted.contains(both.getLeftOperand().toString());
    }
}
