import com.sun.source.tree.ArrayTypeTree;
import com.sun.source.tree.BlockTree;
import com.sun.source.tree.ClassTree;
import com.sun.source.tree.CompilationUnitTree;
import com.sun.source.tree.DoWhileLoopTree;
import com.sun.source.tree.ExpressionTree;
import com.sun.source.tree.ForLoopTree;
import com.sun.source.tree.MethodInvocationTree;
import com.sun.source.tree.MethodTree;
import com.sun.source.tree.NewArrayTree;
import com.sun.source.tree.NewClassTree;
import com.sun.source.tree.Tree;
import com.sun.source.tree.VariableTree;
import com.sun.source.tree.WhileLoopTree;
import com.sun.source.util.JavacTask;
import com.sun.source.util.TreePath;
import com.sun.source.util.TreePathScanner;
import com.sun.source.util.Trees;
import java.io.IOException;
import java.nio.file.Files;
import java.nio.file.Path;
import java.util.ArrayDeque;
import java.util.Deque;
import java.util.EnumSet;
import java.util.HashMap;
import java.util.List;
import java.util.Map;
import java.util.Set;
import java.util.TreeSet;
import javax.lang.model.element.Element;
import javax.lang.model.element.ExecutableElement;
import javax.lang.model.element.Modifier;
import javax.lang.model.type.TypeMirror;
import javax.tools.JavaCompiler;
import javax.tools.StandardJavaFileManager;
import javax.tools.ToolProvider;

/**
 * The rules of LANGUAGE.md that can be seen in the source, as the compiler reads it. It holds the class
 * to less than the rules allow: no library but Math, no recursion, and no object made by any call.
 */
public final class SourceTest extends TreePathScanner<Void, Void> {
    private static final Checks CHECKS = new Checks("SourceTest");
    private static final Path SOURCE = Path.of("src/main/java/MarkOrder.java");
    private static final int MOST_LINES = 60, MOST_DEEP = 8, MOST_SIGNS = 120;
    private static final Set<Tree.Kind> RULED_OUT = EnumSet.of(
        Tree.Kind.LAMBDA_EXPRESSION, Tree.Kind.MEMBER_REFERENCE, Tree.Kind.THROW, Tree.Kind.TRY, Tree.Kind.CATCH,
        Tree.Kind.SYNCHRONIZED, Tree.Kind.ASSERT, Tree.Kind.PACKAGE, Tree.Kind.IMPORT, Tree.Kind.ANNOTATION,
        Tree.Kind.TYPE_CAST, Tree.Kind.DIVIDE, Tree.Kind.REMAINDER, Tree.Kind.DIVIDE_ASSIGNMENT,
        Tree.Kind.REMAINDER_ASSIGNMENT, Tree.Kind.STRING_LITERAL, Tree.Kind.DOUBLE_LITERAL, Tree.Kind.FLOAT_LITERAL);
    private static final Set<String> NUMBERS = Set.of("int", "long", "boolean");
    private static final Set<String> LIBRARY = Set.of("min(int,int)", "max(int,int)", "min(long,long)");

    private final Trees trees;
    private final CompilationUnitTree unit;
    private final Deque<String> methods = new ArrayDeque<>();
    private final Map<String, Set<String>> calls = new HashMap<>();

    private SourceTest(Trees trees, CompilationUnitTree unit) {
        this.trees = trees;
        this.unit = unit;
    }

    public static void main(String[] args) throws IOException {
        JavaCompiler compiler = ToolProvider.getSystemJavaCompiler();
        try (StandardJavaFileManager files = compiler.getStandardFileManager(null, null, null)) {
            JavacTask task = (JavacTask) compiler.getTask(null, files, null, List.of("-proc:none"), null,
                files.getJavaFileObjects(SOURCE));
            CompilationUnitTree unit = task.parse().iterator().next();
            task.analyze();
            SourceTest test = new SourceTest(Trees.instance(task), unit);
            test.scan(unit, null);
            test.callsGoNotDeep();
        }
        signs();
        CHECKS.end();
    }

    private String place(Tree tree) {
        long start = trees.getSourcePositions().getStartPosition(unit, tree);
        return "line " + unit.getLineMap().getLineNumber(start) + ": ";
    }

    @Override
    public Void scan(Tree tree, Void none) {
        if (tree != null) {
            CHECKS.holds("no " + tree.getKind() + " of " + tree, !RULED_OUT.contains(tree.getKind()));
        }
        return super.scan(tree, none);
    }

    /** Rules 1, 2: classes inside the one class are private and static, and none stands in a method. */
    @Override
    public Void visitClass(ClassTree tree, Void none) {
        boolean isFace = getCurrentPath().getParentPath().getLeaf() == unit;
        if (!isFace) {
            Set<Modifier> flags = tree.getModifiers().getFlags();
            CHECKS.holds(place(tree) + "private and static", flags.containsAll(Set.of(Modifier.PRIVATE, Modifier.STATIC)));
            CHECKS.holds(place(tree) + "stands in a class", getCurrentPath().getParentPath().getLeaf() instanceof ClassTree);
        }
        for (Tree member : tree.getMembers()) {
            CHECKS.holds(place(member) + "no initialiser block", !(member instanceof BlockTree));
        }
        return super.visitClass(tree, none);
    }

    /** Rules 3, 5: what a field, a parameter or a variable is, and what a static one may be. */
    @Override
    public Void visitVariable(VariableTree tree, Void none) {
        TypeMirror type = trees.getTypeMirror(new TreePath(getCurrentPath(), tree.getType()));
        String name = type.toString();
        String plain = name.endsWith("[]") ? name.substring(0, name.length() - 2) : name;
        boolean isOwn = plain.startsWith("MarkOrder.");
        CHECKS.holds(place(tree) + "a number, an own class or a row of them: " + name, NUMBERS.contains(plain) || isOwn);
        Set<Modifier> flags = tree.getModifiers().getFlags();
        if (flags.contains(Modifier.STATIC)) {
            CHECKS.holds(place(tree) + "a static one is final", flags.contains(Modifier.FINAL));
            CHECKS.holds(place(tree) + "a static one is a number: " + name, NUMBERS.contains(name));
        }
        return super.visitVariable(tree, none);
    }

    @Override
    public Void visitArrayType(ArrayTypeTree tree, Void none) {
        CHECKS.holds(place(tree) + "one dimension", !(tree.getType() instanceof ArrayTypeTree));
        return super.visitArrayType(tree, none);
    }

    @Override
    public Void visitMethod(MethodTree tree, Void none) {
        long end = trees.getSourcePositions().getEndPosition(unit, tree);
        long start = trees.getSourcePositions().getStartPosition(unit, tree);
        long lines = unit.getLineMap().getLineNumber(end) - unit.getLineMap().getLineNumber(start) + 1;
        CHECKS.holds(place(tree) + "short: " + tree.getName(), lines <= MOST_LINES);
        methods.push(nameOf((ExecutableElement) trees.getElement(getCurrentPath())));
        super.visitMethod(tree, none);
        methods.pop();
        return null;
    }

    private static String nameOf(ExecutableElement method) {
        return method.getEnclosingElement() + "." + method;
    }

    /** Rules 4, 6: a call is one of an own method, or of what the class needs of the library. */
    @Override
    public Void visitMethodInvocation(MethodInvocationTree tree, Void none) {
        ExecutableElement called = (ExecutableElement) trees.getElement(getCurrentPath());
        String owner = called.getEnclosingElement().toString();
        if (owner.equals("MarkOrder") || owner.startsWith("MarkOrder.")) {
            if (!methods.isEmpty()) {
                calls.computeIfAbsent(methods.peek(), key -> new TreeSet<>()).add(nameOf(called));
            }
        } else if (!isMakerOfObject(called)) {
            CHECKS.holds(place(tree) + "of the library only what is told: " + owner + " " + called,
                owner.equals("java.lang.Math") && LIBRARY.contains(called.toString()));
        }
        return super.visitMethodInvocation(tree, none);
    }

    /** The call of Object's maker that the compiler itself puts into each maker. */
    private static boolean isMakerOfObject(Element called) {
        return called.getEnclosingElement().toString().equals("java.lang.Object") && called.toString().equals("Object()");
    }

    /** Rule 12: objects are made with the object alone, so that no run of calls makes many. */
    @Override
    public Void visitNewClass(NewClassTree tree, Void none) {
        CHECKS.holds(place(tree) + "no class without a name", tree.getClassBody() == null);
        madeByMakerAlone(tree);
        return super.visitNewClass(tree, none);
    }

    @Override
    public Void visitNewArray(NewArrayTree tree, Void none) {
        CHECKS.holds(place(tree) + "one dimension", tree.getDimensions().size() == 1);
        madeByMakerAlone(tree);
        return super.visitNewArray(tree, none);
    }

    private void madeByMakerAlone(Tree tree) {
        for (TreePath path = getCurrentPath(); path != null; path = path.getParentPath()) {
            if (path.getLeaf() instanceof MethodTree method) {
                CHECKS.holds(place(tree) + "made by a maker", method.getName().contentEquals("<init>"));
                return;
            }
        }
    }

    /** Rule 9: a loop has an end that its own lines tell. */
    @Override
    public Void visitWhileLoop(WhileLoopTree tree, Void none) {
        comparesWithABound(tree, tree.getCondition());
        return super.visitWhileLoop(tree, none);
    }

    @Override
    public Void visitDoWhileLoop(DoWhileLoopTree tree, Void none) {
        comparesWithABound(tree, tree.getCondition());
        return super.visitDoWhileLoop(tree, none);
    }

    @Override
    public Void visitForLoop(ForLoopTree tree, Void none) {
        comparesWithABound(tree, tree.getCondition());
        CHECKS.holds(place(tree) + "a counter goes on", tree.getUpdate().size() == 1);
        return super.visitForLoop(tree, none);
    }

    private void comparesWithABound(Tree loop, ExpressionTree condition) {
        String text = String.valueOf(condition);
        CHECKS.holds(place(loop) + "a bound: " + text, text.contains("<") || text.contains(">"));
    }

    /** Rules 8, 11: no method comes back to itself, and calls go at most eight deep. */
    private void callsGoNotDeep() {
        CHECKS.holds("calls were found", calls.size() > 20);
        for (String method : calls.keySet()) {
            int deep = depth(method, new ArrayDeque<>());
            CHECKS.holds(method + " goes " + deep + " deep", deep <= MOST_DEEP);
        }
    }

    private int depth(String method, Deque<String> open) {
        if (open.contains(method)) {
            CHECKS.holds(method + " comes back to itself", false);
            return 0;
        }
        open.push(method);
        int deepest = 0;
        for (String called : calls.getOrDefault(method, Set.of())) {
            deepest = Math.max(deepest, depth(called, open));
        }
        open.pop();
        return deepest + 1;
    }

    private static void signs() throws IOException {
        for (String line : Files.readAllLines(SOURCE)) {
            CHECKS.holds("plain signs, no long line: " + line,
                line.length() <= MOST_SIGNS && line.chars().allMatch(sign -> sign >= ' ' && sign < 127));
        }
    }
}
