import com.sun.source.tree.BinaryTree;
import com.sun.source.tree.BlockTree;
import com.sun.source.tree.ClassTree;
import com.sun.source.tree.CompilationUnitTree;
import com.sun.source.tree.ForLoopTree;
import com.sun.source.tree.ImportTree;
import com.sun.source.tree.MemberSelectTree;
import com.sun.source.tree.MethodInvocationTree;
import com.sun.source.tree.MethodTree;
import com.sun.source.tree.NewArrayTree;
import com.sun.source.tree.NewClassTree;
import com.sun.source.tree.Tree;
import com.sun.source.tree.UnaryTree;
import com.sun.source.tree.VariableTree;
import com.sun.source.tree.WhileLoopTree;
import com.sun.source.util.JavacTask;
import com.sun.source.util.TreeScanner;
import com.sun.source.util.Trees;
import java.io.IOException;
import java.nio.file.Path;
import java.util.HashSet;
import java.util.List;
import java.util.Map;
import java.util.Set;
import java.util.TreeMap;
import java.util.TreeSet;
import javax.lang.model.element.Modifier;
import javax.tools.JavaCompiler;
import javax.tools.StandardJavaFileManager;
import javax.tools.ToolProvider;

/**
 * The program keeps to LANGUAGE.md, rules 2 to 13, as far as its text shows it; FaceTest has rule 1.
 * What the rules leave and the program does not use is refused too: the list is widened when it is needed.
 */
public final class FormTest extends TreeScanner<Void, Void> {
    private static final Set<String> LIBRARY = Set.of("Arrays.fill", "System.arraycopy", "Math.max", "Math.min");
    private static final Set<String> NUMBERS = Set.of("int", "long", "short", "byte", "char", "boolean");
    private static final Set<String> CONSTANTS = Set.of("int", "long", "boolean", "char", "String");
    private static final Map<Tree.Kind, Integer> RULED_OUT = Map.of(Tree.Kind.LAMBDA_EXPRESSION, 2,
            Tree.Kind.MEMBER_REFERENCE, 2, Tree.Kind.THROW, 6, Tree.Kind.TRY, 6, Tree.Kind.SYNCHRONIZED, 6,
            Tree.Kind.ASSERT, 6, Tree.Kind.INSTANCE_OF, 6, Tree.Kind.TYPE_CAST, 6, Tree.Kind.DO_WHILE_LOOP, 9);
    private static final String CONSTRUCTOR = "<init>";

    private final CompilationUnitTree unit;
    private final Trees trees;
    private final Set<String> classes = new TreeSet<>();
    private final Map<String, Set<String>> callsOf = new TreeMap<>();
    private String method = null;

    private FormTest(CompilationUnitTree unit, Trees trees) {
        this.unit = unit;
        this.trees = trees;
    }

    public static void main(String[] args) throws IOException {
        JavaCompiler compiler = ToolProvider.getSystemJavaCompiler();
        try (StandardJavaFileManager files = compiler.getStandardFileManager(null, null, null)) {
            JavacTask task = (JavacTask) compiler.getTask(null, files, null, null, null,
                    files.getJavaFileObjects(Path.of("src/main/java/DeficitNet.java")));
            for (CompilationUnitTree unit : task.parse()) {
                new FormTest(unit, Trees.instance(task)).check();
            }
        }
        Checks.finish("FormTest");
    }

    private void check() {
        Checks.due("classes beside one another in the file", unit.getTypeDecls().size(), 1);
        Checks.holds("no package line", unit.getPackage() == null);
        scan(unit, null);
        Checks.holds("rule 11: at most twelve classes", classes.size() <= 12);
        Checks.holds("the methods were seen", callsOf.containsKey("run") && callsOf.containsKey("choose"));
        for (String name : callsOf.keySet()) {
            for (String called : callsOf.get(name)) {
                Checks.holds("rule 4: " + name + " calls " + called, callsOf.containsKey(called) || LIBRARY.contains(called));
            }
            int depth = depth(name, new TreeSet<>());
            Checks.holds("rule 11: " + name + " goes " + depth + " calls deep", depth <= 8);
        }
    }

    /** How many calls stand open at once, this one and one of the library counted. */
    private int depth(String name, Set<String> open) {
        if (!callsOf.containsKey(name)) {
            return 1;
        }
        if (!open.add(name)) {
            Checks.holds("rule 8: " + name + " calls itself by way of " + open, false);
            return 0;
        }
        int deepest = 0;
        for (String called : callsOf.get(name)) {
            deepest = Math.max(deepest, depth(called, open));
        }
        open.remove(name);
        return 1 + deepest;
    }

    private void holds(int rule, Tree tree, String what, boolean condition) {
        long line = unit.getLineMap().getLineNumber(trees.getSourcePositions().getStartPosition(unit, tree));
        Checks.holds("rule " + rule + ", line " + line + ": " + what, condition);
    }

    @Override
    public Void scan(Tree tree, Void none) {
        if (tree != null && RULED_OUT.containsKey(tree.getKind())) {
            holds(RULED_OUT.get(tree.getKind()), tree, "no " + tree.getKind(), false);
        }
        return super.scan(tree, none);
    }

    @Override
    public Void visitImport(ImportTree tree, Void none) {
        holds(4, tree, "only Arrays", tree.getQualifiedIdentifier().toString().equals("java.util.Arrays"));
        return null;
    }

    @Override
    public Void visitClass(ClassTree tree, Void none) {
        boolean isInside = !unit.getTypeDecls().contains(tree);
        holds(2, tree, "no local class or one without a name", method == null);
        holds(2, tree, "static", !isInside || isStatic(tree.getModifiers().getFlags()));
        classes.add(tree.getSimpleName().toString());
        int fields = 0;
        for (Tree member : tree.getMembers()) {
            holds(5, member, "no block of its own", !(member instanceof BlockTree));
            if (member instanceof ClassTree inside) {
                classes.add(inside.getSimpleName().toString());
            } else if (member instanceof VariableTree field && isStatic(field.getModifiers().getFlags())) {
                holds(5, field, "a constant", field.getModifiers().getFlags().contains(Modifier.FINAL)
                        && CONSTANTS.contains(field.getType().toString()));
            } else if (member instanceof VariableTree) {
                fields++;
            }
        }
        holds(11, tree, "at most twenty fields", fields <= 20);
        return super.visitClass(tree, none);
    }

    private static boolean isStatic(Set<Modifier> modifiers) {
        return modifiers.contains(Modifier.STATIC);
    }

    @Override
    public Void visitMethod(MethodTree tree, Void none) {
        method = tree.getName().toString();
        // A call is told by its name alone here, so no two methods may share one.
        holds(8, tree, "a name of its own", method.equals(CONSTRUCTOR) || !callsOf.containsKey(method));
        callsOf.putIfAbsent(method, new TreeSet<>());
        holds(11, tree, "at most seven parameters", tree.getParameters().size() <= 7);
        holds(11, tree, "at most sixty lines", tree.toString().lines().count() <= 60);
        super.visitMethod(tree, none);
        method = null;
        return null;
    }

    @Override
    public Void visitVariable(VariableTree tree, Void none) {
        String type = tree.getType().toString();
        String element = type.replace("[]", "");
        int dimensions = (type.length() - element.length()) / 2;
        boolean isKnown = NUMBERS.contains(element) || classes.contains(element)
                || element.equals("String") && isStatic(tree.getModifiers().getFlags());
        holds(3, tree, "type " + type, isKnown && dimensions <= (NUMBERS.contains(element) ? 2 : 1));
        return super.visitVariable(tree, none);
    }

    @Override
    public Void visitMethodInvocation(MethodInvocationTree tree, Void none) {
        String name = tree.getMethodSelect().toString();
        if (!LIBRARY.contains(name) && tree.getMethodSelect() instanceof MemberSelectTree select) {
            name = select.getIdentifier().toString();
        }
        holds(12, tree, "no call in a field's first value", method != null);
        callsOf.computeIfAbsent(method == null ? CONSTRUCTOR : method, key -> new TreeSet<>()).add(name);
        return super.visitMethodInvocation(tree, none);
    }

    /** Stricter than rule 12, as README.md says that no call makes an object. */
    @Override
    public Void visitNewClass(NewClassTree tree, Void none) {
        holds(12, tree, "made by a constructor", isMadeAtFirst());
        holds(4, tree, "of an own class", classes.contains(tree.getIdentifier().toString()));
        return super.visitNewClass(tree, none);
    }

    @Override
    public Void visitNewArray(NewArrayTree tree, Void none) {
        holds(12, tree, "made by a constructor", isMadeAtFirst());
        return super.visitNewArray(tree, none);
    }

    private boolean isMadeAtFirst() {
        return method == null || method.equals(CONSTRUCTOR);
    }

    @Override
    public Void visitForLoop(ForLoopTree tree, Void none) {
        Set<String> counters = counted(tree.getUpdate());
        counters.retainAll(bounded(tree.getCondition()));
        holds(9, tree, "counts against a bound", !counters.isEmpty());
        return super.visitForLoop(tree, none);
    }

    @Override
    public Void visitWhileLoop(WhileLoopTree tree, Void none) {
        Set<String> counters = counted(List.of(tree.getStatement()));
        counters.retainAll(bounded(tree.getCondition()));
        holds(9, tree, "counts against a bound", !counters.isEmpty());
        return super.visitWhileLoop(tree, none);
    }

    /** The variables that grow by 1; not the fields, which a call in the loop could change. */
    private static Set<String> counted(List<? extends Tree> trees) {
        Set<String> names = new HashSet<>();
        new TreeScanner<Void, Void>() {
            @Override
            public Void visitUnary(UnaryTree tree, Void none) {
                if (tree.getKind() == Tree.Kind.POSTFIX_INCREMENT && tree.getExpression().getKind() == Tree.Kind.IDENTIFIER) {
                    names.add(tree.getExpression().toString());
                }
                return super.visitUnary(tree, none);
            }
        }.scan(trees, null);
        return names;
    }

    /** What must be less than something for the condition to hold. */
    private static Set<String> bounded(Tree condition) {
        Set<String> names = new HashSet<>();
        new TreeScanner<Void, Void>() {
            @Override
            public Void visitBinary(BinaryTree tree, Void none) {
                if (tree.getKind() == Tree.Kind.LESS_THAN) {
                    names.add(tree.getLeftOperand().toString());
                }
                return tree.getKind() == Tree.Kind.CONDITIONAL_OR ? null : super.visitBinary(tree, none);
            }
        }.scan(condition, null);
        return names;
    }
}
