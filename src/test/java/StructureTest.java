import com.sun.source.tree.ArrayAccessTree;
import com.sun.source.tree.AssignmentTree;
import com.sun.source.tree.BinaryTree;
import com.sun.source.tree.CatchTree;
import com.sun.source.tree.ClassTree;
import com.sun.source.tree.CompilationUnitTree;
import com.sun.source.tree.CompoundAssignmentTree;
import com.sun.source.tree.DoWhileLoopTree;
import com.sun.source.tree.ExpressionTree;
import com.sun.source.tree.ForLoopTree;
import com.sun.source.tree.LambdaExpressionTree;
import com.sun.source.tree.MemberReferenceTree;
import com.sun.source.tree.MethodInvocationTree;
import com.sun.source.tree.MethodTree;
import com.sun.source.tree.NewArrayTree;
import com.sun.source.tree.NewClassTree;
import com.sun.source.tree.ThrowTree;
import com.sun.source.tree.Tree;
import com.sun.source.tree.UnaryTree;
import com.sun.source.tree.VariableTree;
import com.sun.source.tree.WhileLoopTree;
import com.sun.source.util.JavacTask;
import com.sun.source.util.SourcePositions;
import com.sun.source.util.TreePath;
import com.sun.source.util.TreePathScanner;
import com.sun.source.util.Trees;
import java.io.IOException;
import java.nio.file.Path;
import java.util.ArrayDeque;
import java.util.Deque;
import java.util.List;
import java.util.Map;
import java.util.Set;
import java.util.TreeMap;
import java.util.TreeSet;
import javax.lang.model.element.Element;
import javax.lang.model.element.ElementKind;
import javax.lang.model.element.Modifier;
import javax.lang.model.element.TypeElement;
import javax.lang.model.element.VariableElement;
import javax.tools.JavaCompiler;
import javax.tools.StandardJavaFileManager;
import javax.tools.ToolProvider;

/**
 * What ../shared/LANGUAGE.md binds besides words, as the compiler reads the class. It is narrower than the
 * rules where the class needs less than they leave: no loop but by a counter or over an array, no recursion,
 * nothing caught, and nothing made but by constructors (and what is thrown).
 */
public final class StructureTest extends TreePathScanner<Void, Void> {
    private static final Path SOURCE = Path.of("src/main/java/ClickBench.java");
    private static final int MOST_CLASSES = 12;
    private static final int MOST_FIELDS = 20;
    private static final int MOST_PARAMETERS = 7;
    private static final int MOST_LINES = 60;
    private static final int MOST_CALLS = 8;
    private static final Set<String> LIBRARY = Set.of(
            "java.lang.String.length", "java.lang.String.charAt", "java.lang.System.arraycopy",
            "java.lang.Math.min", "java.lang.Math.max", "java.lang.Math.abs");
    private static final Set<String> TYPES = Set.of("int", "long", "boolean", "double", "java.lang.String", "int[]");

    /** How a member's name ends if it makes an object, or the constants of a class. */
    private static final String MAKES = ".<init>";
    private static final String STARTS = ".<clinit>";

    private final Trees trees;
    private final CompilationUnitTree unit;
    private final Map<String, Set<String>> calls = new TreeMap<>();
    /** The methods that stand round the place in hand, the innermost first. */
    private final Deque<String> makers = new ArrayDeque<>();
    private int classes = 0;

    private StructureTest(Trees trees, CompilationUnitTree unit) {
        this.trees = trees;
        this.unit = unit;
    }

    public static void main(String[] args) throws IOException {
        JavaCompiler compiler = ToolProvider.getSystemJavaCompiler();
        try (StandardJavaFileManager files = compiler.getStandardFileManager(null, null, null)) {
            JavacTask task = (JavacTask) compiler.getTask(null, files, null, List.of("-proc:none"), null,
                    files.getJavaFileObjects(SOURCE));
            for (CompilationUnitTree unit : task.parse()) {
                task.analyze();
                new StructureTest(Trees.instance(task), unit).look();
            }
        }
        Check.finish();
    }

    private void look() {
        scan(unit, null);
        atMost("classes in the file", MOST_CLASSES, classes);
        for (String method : calls.keySet()) {
            atMost("calls below " + method, MOST_CALLS, depth(method, new ArrayDeque<>()));
        }
    }

    private static void atMost(String what, int most, int got) {
        Check.due(what + ": " + got + " is at most " + most, 1, got <= most ? 1 : 0);
    }

    private void never(String what, Tree where) {
        Check.due(what + " in line " + line(where, true), 0, 1);
    }

    private long line(Tree tree, boolean first) {
        SourcePositions places = trees.getSourcePositions();
        long at = first ? places.getStartPosition(unit, tree) : places.getEndPosition(unit, tree);
        return unit.getLineMap().getLineNumber(at);
    }

    /** How many calls stand open at most from this one on. */
    private int depth(String method, Deque<String> open) {
        if (open.contains(method)) {
            Check.due("calls itself", "", method);
            return 0;
        }
        open.push(method);
        int deepest = 0;
        for (String called : calls.getOrDefault(method, Set.of())) {
            deepest = Math.max(deepest, depth(called, open));
        }
        open.pop();
        return deepest + 1;
    }

    private Element elementOf(Tree tree) {
        return trees.getElement(new TreePath(getCurrentPath(), tree));
    }

    private static boolean isOwn(Element element) {
        Element outermost = element;
        while (outermost.getEnclosingElement() instanceof TypeElement holder) {
            outermost = holder;
        }
        return outermost.getSimpleName().contentEquals("ClickBench");
    }

    private static String nameOf(Element member) {
        return member.getEnclosingElement() + "." + member.getSimpleName();
    }

    // ---- rules 1, 2, 5 and 11: classes, fields and methods

    @Override
    public Void visitClass(ClassTree tree, Void none) {
        classes++;
        Element self = trees.getElement(getCurrentPath());
        Check.due(self + " has a name", 0, tree.getSimpleName().isEmpty() ? 1 : 0);
        int fields = 0;
        for (Element member : self.getEnclosedElements()) {
            boolean isStatic = member.getModifiers().contains(Modifier.STATIC);
            if (member.getKind() == ElementKind.FIELD && !isStatic) {
                fields++;
            }
            if (member.getKind() == ElementKind.FIELD && isStatic) {
                Check.due(nameOf(member) + " is final", 1, member.getModifiers().contains(Modifier.FINAL) ? 1 : 0);
            }
        }
        atMost("fields of " + self, MOST_FIELDS, fields);
        for (Tree member : tree.getMembers()) {
            if (member.getKind() == Tree.Kind.BLOCK) {
                never("a block that runs when a class or an object is made", member);
            }
        }
        makers.push(self + MAKES);
        super.visitClass(tree, none);
        makers.pop();
        return null;
    }

    @Override
    public Void visitMethod(MethodTree tree, Void none) {
        String name = nameOf(trees.getElement(getCurrentPath()));
        atMost("parameters of " + name, MOST_PARAMETERS, tree.getParameters().size());
        if (line(tree, false) > 0) {
            atMost("lines of " + name, MOST_LINES, (int) (line(tree, false) - line(tree, true) + 1));
        }
        calls.computeIfAbsent(name, key -> new TreeSet<>());
        makers.push(name);
        super.visitMethod(tree, none);
        makers.pop();
        return null;
    }

    // ---- rules 3 and 5: types, and arrays that are never changed

    @Override
    public Void visitVariable(VariableTree tree, Void none) {
        VariableElement variable = (VariableElement) trees.getElement(getCurrentPath());
        String type = variable.asType().toString();
        boolean isKnown = TYPES.contains(type) || type.matches("ClickBench\\.\\w+(\\[\\])?");
        Check.due("type of " + variable.getSimpleName() + ", " + type + ", is allowed", 1, isKnown ? 1 : 0);
        boolean isConstant = variable.getModifiers().contains(Modifier.STATIC);
        makers.push(isConstant ? variable.getEnclosingElement() + STARTS : makers.peek());
        super.visitVariable(tree, none);
        makers.pop();
        return null;
    }

    private void changes(ExpressionTree target) {
        if (target instanceof ArrayAccessTree place) {
            TreePath path = new TreePath(new TreePath(getCurrentPath(), target), place.getExpression());
            Element array = trees.getElement(path);
            if (array != null && array.getModifiers().contains(Modifier.STATIC)) {
                never("a change of a constant array", target);
            }
        }
    }

    @Override
    public Void visitAssignment(AssignmentTree tree, Void none) {
        changes(tree.getVariable());
        return super.visitAssignment(tree, none);
    }

    @Override
    public Void visitCompoundAssignment(CompoundAssignmentTree tree, Void none) {
        changes(tree.getVariable());
        return super.visitCompoundAssignment(tree, none);
    }

    @Override
    public Void visitUnary(UnaryTree tree, Void none) {
        changes(tree.getExpression());
        return super.visitUnary(tree, none);
    }

    @Override
    public Void visitBinary(BinaryTree tree, Void none) {
        String type = trees.getTypeMirror(getCurrentPath()).toString();
        if (type.equals("java.lang.String")) {
            never("texts joined by +", tree);
        }
        return super.visitBinary(tree, none);
    }

    // ---- rules 4, 8 and 11: calls

    @Override
    public Void visitMethodInvocation(MethodInvocationTree tree, Void none) {
        Element called = elementOf(tree.getMethodSelect());
        String name = nameOf(called);
        boolean isSuper = name.endsWith(MAKES);
        if (isOwn(called)) {
            callTo(name);
        } else if (!isSuper) {
            Check.due("the library's " + name + " is allowed", 1, LIBRARY.contains(name) ? 1 : 0);
        }
        return super.visitMethodInvocation(tree, none);
    }

    private void callTo(String name) {
        calls.computeIfAbsent(makers.peek(), key -> new TreeSet<>()).add(name);
    }

    // ---- rules 6 and 12: what is thrown, and what is made

    private boolean isInConstructor() {
        return makers.peek().endsWith(MAKES) || makers.peek().endsWith(STARTS);
    }

    @Override
    public Void visitNewClass(NewClassTree tree, Void none) {
        Element constructor = trees.getElement(getCurrentPath());
        if (isOwn(constructor)) {
            callTo(nameOf(constructor));
            Check.due("made in a constructor: " + tree, 1, isInConstructor() ? 1 : 0);
        } else {
            Tree parent = getCurrentPath().getParentPath().getLeaf();
            Check.due("made to be thrown: " + tree, 1, parent instanceof ThrowTree ? 1 : 0);
        }
        return super.visitNewClass(tree, none);
    }

    @Override
    public Void visitNewArray(NewArrayTree tree, Void none) {
        Check.due("made in a constructor: " + tree, 1, isInConstructor() ? 1 : 0);
        return super.visitNewArray(tree, none);
    }

    @Override
    public Void visitThrow(ThrowTree tree, Void none) {
        if (isInConstructor()) {
            never("a throw in a constructor", tree);
        }
        return super.visitThrow(tree, none);
    }

    @Override
    public Void visitCatch(CatchTree tree, Void none) {
        never("a catch", tree);
        return super.visitCatch(tree, none);
    }

    // ---- rules 2 and 9: no lambda, and loops whose end can be seen

    @Override
    public Void visitLambdaExpression(LambdaExpressionTree tree, Void none) {
        never("a lambda", tree);
        return super.visitLambdaExpression(tree, none);
    }

    @Override
    public Void visitMemberReference(MemberReferenceTree tree, Void none) {
        never("a method reference", tree);
        return super.visitMemberReference(tree, none);
    }

    @Override
    public Void visitWhileLoop(WhileLoopTree tree, Void none) {
        never("a loop without a counter", tree);
        return super.visitWhileLoop(tree, none);
    }

    @Override
    public Void visitDoWhileLoop(DoWhileLoopTree tree, Void none) {
        never("a loop without a counter", tree);
        return super.visitDoWhileLoop(tree, none);
    }

    @Override
    public Void visitForLoop(ForLoopTree tree, Void none) {
        boolean counts = tree.getCondition() != null && !tree.getUpdate().isEmpty();
        Check.due("a loop by a counter in line " + line(tree, true), 1, counts ? 1 : 0);
        return super.visitForLoop(tree, none);
    }
}
