import com.sun.source.tree.AssertTree;
import com.sun.source.tree.BinaryTree;
import com.sun.source.tree.ClassTree;
import com.sun.source.tree.CompilationUnitTree;
import com.sun.source.tree.CompoundAssignmentTree;
import com.sun.source.tree.DoWhileLoopTree;
import com.sun.source.tree.ExpressionTree;
import com.sun.source.tree.ForLoopTree;
import com.sun.source.tree.LambdaExpressionTree;
import com.sun.source.tree.LiteralTree;
import com.sun.source.tree.MemberReferenceTree;
import com.sun.source.tree.MethodInvocationTree;
import com.sun.source.tree.MethodTree;
import com.sun.source.tree.NewArrayTree;
import com.sun.source.tree.NewClassTree;
import com.sun.source.tree.StatementTree;
import com.sun.source.tree.SynchronizedTree;
import com.sun.source.tree.ThrowTree;
import com.sun.source.tree.Tree;
import com.sun.source.tree.TryTree;
import com.sun.source.tree.TypeCastTree;
import com.sun.source.tree.VariableTree;
import com.sun.source.tree.WhileLoopTree;
import com.sun.source.util.JavacTask;
import com.sun.source.util.SourcePositions;
import com.sun.source.util.TreePathScanner;
import com.sun.source.util.Trees;
import java.io.IOException;
import java.nio.file.Path;
import java.util.HashMap;
import java.util.HashSet;
import java.util.List;
import java.util.Map;
import java.util.Set;
import java.util.TreeSet;
import javax.lang.model.element.Element;
import javax.lang.model.element.ElementKind;
import javax.lang.model.element.ExecutableElement;
import javax.lang.model.element.Modifier;
import javax.lang.model.element.VariableElement;
import javax.tools.JavaCompiler;
import javax.tools.StandardJavaFileManager;
import javax.tools.ToolProvider;

/**
 * The rules of LANGUAGE.md, looked at in the tree that the compiler makes of the class. What a rule allows and the class
 * does without (try, while, casts of objects, objects made by a call) is refused here: who needs it, adds it here.
 */
public final class RulesTest extends TreePathScanner<Void, Void> {
    private static final Path SOURCE = Path.of("src/main/java/GlassRopes.java");
    private static final Set<String> LIBRARY = Set.of("Math.min", "Math.max", "System.arraycopy");
    private static final Set<String> PLAIN_TYPES = Set.of("int", "long", "boolean", "double", "int[]", "boolean[]");
    private static final Set<String> EXCEPTIONS = Set.of("IllegalArgumentException", "IndexOutOfBoundsException",
        "IllegalStateException");
    private static final int MOST_CLASSES = 12;
    private static final int MOST_FIELDS = 20;
    private static final int MOST_PARAMETERS = 7;
    private static final int MOST_LINES = 60;
    private static final int MOST_OPEN_CALLS = 8;

    private final Trees trees;
    private final SourcePositions places;
    private final CompilationUnitTree unit;
    private final Set<String> classes = new TreeSet<>();
    private final Map<String, Set<String>> callsOf = new HashMap<>();
    private final Set<String> face = new TreeSet<>();

    private RulesTest(Trees trees, CompilationUnitTree unit) {
        this.trees = trees;
        this.places = trees.getSourcePositions();
        this.unit = unit;
    }

    public static void main(String[] args) throws IOException {
        JavaCompiler compiler = ToolProvider.getSystemJavaCompiler();
        try (StandardJavaFileManager files = compiler.getStandardFileManager(null, null, null)) {
            List<String> options = List.of("--release", "17", "-proc:none");
            JavacTask task = (JavacTask) compiler.getTask(null, files, null, options, null, files.getJavaFileObjects(SOURCE));
            CompilationUnitTree unit = task.parse().iterator().next();
            task.analyze();
            RulesTest rules = new RulesTest(Trees.instance(task), unit);
            rules.readAll();
        }
        Due.end();
    }

    private void readAll() {
        Due.same("rule 1: a package line", unit.getPackage() == null, true);
        Due.same("rule 4: imports", unit.getImports().size(), 0);
        Due.same("rule 1: classes that stand outside the class", unit.getTypeDecls().size(), 1);
        nameClasses(trees.getElement(trees.getPath(unit, unit.getTypeDecls().get(0))));
        scan(unit, null);
        Due.same("rule 11: classes: " + classes, classes.size() <= MOST_CLASSES, true);
        Due.same("calls of the face (and the constructor): " + face, face.size(), 20);
        for (String call : face) {
            int open = openCalls(call, new HashSet<>());
            Due.same("rule 11: " + open + " calls stand open below " + call, open <= MOST_OPEN_CALLS, true);
        }
    }

    private void nameClasses(Element type) {
        classes.add(type.getSimpleName().toString());
        for (Element inside : type.getEnclosedElements()) {
            if (inside.getKind() == ElementKind.CLASS) {
                nameClasses(inside);
            }
        }
    }

    /** How many calls stand open at once, this one as well. */
    private int openCalls(String call, Set<String> open) {
        if (!open.add(call)) {
            refuse("rule 8: recursion of " + call, null);
            return 0;
        }
        int most = 0;
        for (String called : callsOf.getOrDefault(call, Set.of())) {
            most = Math.max(most, openCalls(called, open));
        }
        open.remove(call);
        return most + 1;
    }

    private void hold(String rule, Tree at, boolean holds) {
        Due.same(rule + (at == null ? "" : " at line " + line(at) + ": " + firstLine(at)), holds, true);
    }

    private void refuse(String rule, Tree at) {
        hold(rule, at, false);
    }

    private long line(Tree at) {
        return unit.getLineMap().getLineNumber(places.getStartPosition(unit, at));
    }

    private static String firstLine(Tree at) {
        return at.toString().strip().lines().findFirst().orElse("");
    }

    private Element element() {
        return trees.getElement(getCurrentPath());
    }

    private Tree parent() {
        return getCurrentPath().getParentPath().getLeaf();
    }

    private static String name(Element method) {
        return method.getEnclosingElement().getSimpleName() + "." + method.getSimpleName();
    }

    /** The method around the present place, or null in a field. */
    private ExecutableElement methodAround() {
        for (var path = getCurrentPath(); path != null; path = path.getParentPath()) {
            if (path.getLeaf() instanceof MethodTree) {
                return (ExecutableElement) trees.getElement(path);
            }
        }
        return null;
    }

    // ---- classes, fields and methods

    @Override
    public Void visitClass(ClassTree type, Void none) {
        Element made = element();
        boolean outermost = parent() == unit;
        hold("rule 2: a class inside is private or package-visible, and static", type, outermost
            || parent() instanceof ClassTree && made.getModifiers().contains(Modifier.STATIC)
            && !made.getModifiers().contains(Modifier.PUBLIC) && !made.getModifiers().contains(Modifier.PROTECTED));
        int fields = 0;
        for (Tree member : type.getMembers()) {
            hold("rule 5: no initialiser block", member, member.getKind() != Tree.Kind.BLOCK);
            if (member instanceof VariableTree && !isStatic((VariableTree) member)) {
                fields++;
            }
        }
        hold("rule 11: " + fields + " fields", type, fields <= MOST_FIELDS);
        return super.visitClass(type, none);
    }

    private static boolean isStatic(VariableTree variable) {
        return variable.getModifiers().getFlags().contains(Modifier.STATIC);
    }

    @Override
    public Void visitVariable(VariableTree variable, Void none) {
        VariableElement made = (VariableElement) element();
        hold("rule 3: the type", variable, isOwnType(variable.getType().toString()));
        if (isStatic(variable)) {
            hold("rule 5: a static field is a constant", variable, made.getConstantValue() != null);
        } else if (parent() instanceof ClassTree) {
            hold("rule 1: a private field", variable, made.getModifiers().contains(Modifier.PRIVATE));
        }
        return super.visitVariable(variable, none);
    }

    private boolean isOwnType(String type) {
        return PLAIN_TYPES.contains(type) || classes.contains(type);
    }

    @Override
    public Void visitMethod(MethodTree method, Void none) {
        ExecutableElement made = (ExecutableElement) element();
        if (made.getModifiers().contains(Modifier.PUBLIC)) {
            face.add(name(made));
            hold("rule 1: the face is the outermost class's", method, parent() == unit.getTypeDecls().get(0));
        }
        hold("rule 11: parameters", method, method.getParameters().size() <= MOST_PARAMETERS);
        long end = unit.getLineMap().getLineNumber(places.getEndPosition(unit, method));
        hold("rule 11: lines", method, end - line(method) < MOST_LINES);
        Tree answer = method.getReturnType();
        hold("rule 3: the answer's type", method, answer == null || answer.toString().equals("void")
            || isOwnType(answer.toString()));
        return super.visitMethod(method, none);
    }

    // ---- calls, objects and exceptions

    @Override
    public Void visitMethodInvocation(MethodInvocationTree call, Void none) {
        Element called = element();
        ExecutableElement caller = methodAround();
        if (!called.getSimpleName().contentEquals("<init>")) {
            String of = called.getEnclosingElement().getSimpleName().toString();
            hold("rule 4: the library", call, classes.contains(of) || LIBRARY.contains(name(called)));
            hold("a field calls nothing", call, caller != null);
            if (caller != null && classes.contains(of)) {
                callsOf.computeIfAbsent(name(caller), key -> new TreeSet<>()).add(name(called));
                hold("no call of the face calls another", call, !called.getModifiers().contains(Modifier.PUBLIC));
            }
        }
        return super.visitMethodInvocation(call, none);
    }

    @Override
    public Void visitNewClass(NewClassTree made, Void none) {
        hold("rule 2: no anonymous class", made, made.getClassBody() == null);
        if (parent() instanceof ThrowTree) {
            boolean plain = made.getArguments().isEmpty()
                || made.getArguments().size() == 1 && made.getArguments().get(0) instanceof LiteralTree;
            hold("rule 6: the exception", made, EXCEPTIONS.contains(made.getIdentifier().toString()) && plain);
        } else {
            hold("rule 12: an object made by a field alone", made, methodAround() == null
                && classes.contains(made.getIdentifier().toString()));
        }
        return super.visitNewClass(made, none);
    }

    @Override
    public Void visitNewArray(NewArrayTree made, Void none) {
        hold("rule 12: an array made by a field alone", made, methodAround() == null);
        hold("rule 7: an array's length", made, made.getDimensions().size() == 1
            && isConstantAbove(0, made.getDimensions().get(0)));
        return super.visitNewArray(made, none);
    }

    @Override
    public Void visitThrow(ThrowTree thrown, Void none) {
        ExecutableElement in = methodAround();
        hold("rule 6: a call of the face throws it", thrown, in != null && face.contains(name(in))
            && in.getKind() == ElementKind.METHOD && thrown.getExpression() instanceof NewClassTree
            && in.getThrownTypes().toString().contains(
                ((NewClassTree) thrown.getExpression()).getIdentifier().toString()));
        return super.visitThrow(thrown, none);
    }

    // ---- loops and sums

    @Override
    public Void visitForLoop(ForLoopTree loop, Void none) {
        hold("rule 9: a counter against a bound", loop, isCounted(loop));
        return super.visitForLoop(loop, none);
    }

    private static boolean isCounted(ForLoopTree loop) {
        List<? extends StatementTree> start = loop.getInitializer();
        if (start.size() != 1 || !(start.get(0) instanceof VariableTree) || loop.getUpdate().size() != 1) {
            return false;
        }
        String counter = ((VariableTree) start.get(0)).getName().toString();
        String until = String.valueOf(loop.getCondition());
        String body = loop.getStatement().toString();
        boolean left = body.matches("(?s).*\\b" + counter + " ?(=[^=]|[-+*/%&|^]=|\\+\\+|--).*");
        return until.matches("\\(?" + counter + " <=? .*") && !left
            && loop.getUpdate().get(0).toString().equals(counter + "++;");
    }

    @Override
    public Void visitBinary(BinaryTree sum, Void none) {
        boolean divides = sum.getKind() == Tree.Kind.DIVIDE || sum.getKind() == Tree.Kind.REMAINDER;
        if (divides) {
            hold("rule 7: the divisor", sum, isConstantAbove(0, sum.getRightOperand()) || isTested(sum));
        }
        return super.visitBinary(sum, none);
    }

    /** Whether the divisor is held against a constant above 0, in front of an && that the division stands behind. */
    private boolean isTested(BinaryTree division) {
        String divisor = division.getRightOperand().toString();
        for (var path = getCurrentPath(); path != null && path.getLeaf() instanceof ExpressionTree;
                path = path.getParentPath()) {
            Tree leaf = path.getLeaf();
            if (leaf.getKind() == Tree.Kind.CONDITIONAL_AND
                    && ((BinaryTree) leaf).getLeftOperand().toString().equals(divisor + " >= LEAST_EVERY")) {
                return true;
            }
        }
        return false;
    }

    /** A number written out, or the name of a constant. */
    private boolean isConstantAbove(int least, ExpressionTree number) {
        if (number instanceof LiteralTree) {
            Object value = ((LiteralTree) number).getValue();
            return value instanceof Integer && (Integer) value > least;
        }
        Element named = trees.getElement(trees.getPath(unit, number));
        Object value = named instanceof VariableElement ? ((VariableElement) named).getConstantValue() : null;
        return value instanceof Number && ((Number) value).longValue() > least;
    }

    @Override
    public Void visitCompoundAssignment(CompoundAssignmentTree sum, Void none) {
        boolean divides = sum.getKind() == Tree.Kind.DIVIDE_ASSIGNMENT || sum.getKind() == Tree.Kind.REMAINDER_ASSIGNMENT;
        hold("rule 7: a divisor", sum, !divides);
        return super.visitCompoundAssignment(sum, none);
    }

    // ---- what the class does without

    @Override
    public Void visitTypeCast(TypeCastTree cast, Void none) {
        hold("rule 6: a cast", cast, cast.getType().toString().equals("double"));
        return super.visitTypeCast(cast, none);
    }

    @Override
    public Void visitTry(TryTree tree, Void none) {
        refuse("rule 6: try", tree);
        return super.visitTry(tree, none);
    }

    @Override
    public Void visitWhileLoop(WhileLoopTree tree, Void none) {
        refuse("rule 9: while", tree);
        return super.visitWhileLoop(tree, none);
    }

    @Override
    public Void visitDoWhileLoop(DoWhileLoopTree tree, Void none) {
        refuse("rule 9: do", tree);
        return super.visitDoWhileLoop(tree, none);
    }

    @Override
    public Void visitLambdaExpression(LambdaExpressionTree tree, Void none) {
        refuse("rule 2: a lambda", tree);
        return super.visitLambdaExpression(tree, none);
    }

    @Override
    public Void visitMemberReference(MemberReferenceTree tree, Void none) {
        refuse("rule 2: a method reference", tree);
        return super.visitMemberReference(tree, none);
    }

    @Override
    public Void visitSynchronized(SynchronizedTree tree, Void none) {
        refuse("rule 6: synchronized", tree);
        return super.visitSynchronized(tree, none);
    }

    @Override
    public Void visitAssert(AssertTree tree, Void none) {
        refuse("rule 6: assert", tree);
        return super.visitAssert(tree, none);
    }
}
