import com.sun.source.tree.BinaryTree;
import com.sun.source.tree.CompilationUnitTree;
import com.sun.source.tree.CompoundAssignmentTree;
import com.sun.source.tree.ExpressionTree;
import com.sun.source.tree.LiteralTree;
import com.sun.source.tree.MethodInvocationTree;
import com.sun.source.tree.MethodTree;
import com.sun.source.tree.NewArrayTree;
import com.sun.source.tree.NewClassTree;
import com.sun.source.tree.ParenthesizedTree;
import com.sun.source.tree.Tree;
import com.sun.source.tree.VariableTree;
import com.sun.source.util.JavacTask;
import com.sun.source.util.TreePath;
import com.sun.source.util.TreePathScanner;
import com.sun.source.util.Trees;
import java.io.IOException;
import java.nio.file.Path;
import java.util.EnumSet;
import java.util.HashMap;
import java.util.LinkedHashSet;
import java.util.Map;
import java.util.Set;
import javax.lang.model.element.Element;
import javax.lang.model.element.ElementKind;
import javax.lang.model.element.Modifier;
import javax.lang.model.element.TypeElement;
import javax.lang.model.element.VariableElement;
import javax.lang.model.type.TypeMirror;
import javax.tools.JavaCompiler;
import javax.tools.StandardJavaFileManager;
import javax.tools.ToolProvider;

/**
 * Rules of LANGUAGE.md that show only when names are understood: which library is called, how deep calls
 * go, what divides, which types are used. It reads the program as javac does; run at the project's root.
 */
public final class LanguageTreeTest extends TreePathScanner<Void, Void> {
    private static final String PROGRAM = "CookieServer";
    private static final int MAX_DEPTH = 8;
    private static final int MAX_FIELDS = 20;
    // Of the library and the types that the rules leave, those that the program needs; more may be added.
    private static final Set<String> LIBRARY = Set.of("java.lang.Math.min", "java.lang.Math.floorMod",
        "java.lang.System.arraycopy", "java.lang.Object.<init>");
    private static final Set<String> TYPES = Set.of("int", "long", "boolean", "float", "int[]");
    private static final Set<String> CONSTANT_TYPES = Set.of("int", "long", "boolean", "char", "java.lang.String", "int[]");
    private static final Set<Tree.Kind> FORBIDDEN = EnumSet.of(Tree.Kind.THROW, Tree.Kind.TRY, Tree.Kind.CATCH,
        Tree.Kind.SYNCHRONIZED, Tree.Kind.ASSERT, Tree.Kind.LAMBDA_EXPRESSION, Tree.Kind.MEMBER_REFERENCE,
        Tree.Kind.INSTANCE_OF, Tree.Kind.ANNOTATION, Tree.Kind.IMPORT, Tree.Kind.PACKAGE);

    private final Trees trees;
    private final Map<Element, Set<Element>> calls = new HashMap<>();
    private final Map<Element, Integer> fields = new HashMap<>();
    private Element method;
    private int read = 0;

    private LanguageTreeTest(Trees trees) {
        this.trees = trees;
    }

    public static void main(String[] args) throws IOException {
        JavaCompiler compiler = ToolProvider.getSystemJavaCompiler();
        try (StandardJavaFileManager files = compiler.getStandardFileManager(null, null, null)) {
            JavacTask task = (JavacTask) compiler.getTask(null, files, null, null, null,
                    files.getJavaFileObjects(Path.of("src/main/java/" + PROGRAM + ".java")));
            Iterable<? extends CompilationUnitTree> units = task.parse();
            task.analyze();
            LanguageTreeTest test = new LanguageTreeTest(Trees.instance(task));
            for (CompilationUnitTree unit : units) {
                test.scan(unit, null);
            }
            test.depths();
            test.fields.forEach((type, count) -> Expect.holds(type + " has few fields", count <= MAX_FIELDS));
            Expect.holds("the program was read", test.read > 1000 && test.calls.size() > 50);
        }
        Expect.end();
    }

    @Override
    public Void scan(Tree tree, Void none) {
        if (tree != null) {
            read++;
            Expect.holds("rule 6: no " + tree.getKind() + ": " + tree, !FORBIDDEN.contains(tree.getKind()));
        }
        return super.scan(tree, none);
    }

    @Override
    public Void visitMethod(MethodTree tree, Void none) {
        Element outer = method;
        method = trees.getElement(getCurrentPath());
        calls.put(method, new LinkedHashSet<>());
        super.visitMethod(tree, none);
        method = outer;
        return null;
    }

    @Override
    public Void visitMethodInvocation(MethodInvocationTree tree, Void none) {
        Element called = trees.getElement(getCurrentPath());
        call(called);
        if (called.getSimpleName().contentEquals("floorMod")) {
            Expect.holds("rule 7: what divides is a constant: " + tree, isNonZero(constant(tree.getArguments().get(1))));
        }
        return super.visitMethodInvocation(tree, none);
    }

    @Override
    public Void visitNewClass(NewClassTree tree, Void none) {
        call(trees.getElement(getCurrentPath()));
        madeInAConstructor(tree);
        return super.visitNewClass(tree, none);
    }

    @Override
    public Void visitNewArray(NewArrayTree tree, Void none) {
        madeInAConstructor(tree);
        for (ExpressionTree length : tree.getDimensions()) {
            Object value = constant(length);
            Expect.holds("rule 7: a length is a constant: " + tree, value instanceof Integer && (Integer) value >= 0);
        }
        return super.visitNewArray(tree, none);
    }

    // Not a rule, but how this program stays small: calls make nothing.
    private void madeInAConstructor(Tree tree) {
        Expect.holds("made in a constructor: " + tree, method == null || method.getKind() == ElementKind.CONSTRUCTOR);
    }

    private void call(Element called) {
        String name = ((TypeElement) called.getEnclosingElement()).getQualifiedName() + "." + called.getSimpleName();
        if (name.startsWith(PROGRAM + ".")) {
            Expect.holds("rule 5: no call in an initialiser: " + name, method != null);
            calls.computeIfAbsent(method, from -> new LinkedHashSet<>()).add(called);
        } else {
            Expect.holds("rule 4: " + name + " is in the library", LIBRARY.contains(name));
        }
    }

    @Override
    public Void visitBinary(BinaryTree tree, Void none) {
        if (tree.getKind() == Tree.Kind.DIVIDE || tree.getKind() == Tree.Kind.REMAINDER) {
            boolean floats = typeOf(tree).equals("float");
            Expect.holds("rule 7: what divides is a constant: " + tree, floats || isNonZero(constant(tree.getRightOperand())));
        }
        return super.visitBinary(tree, none);
    }

    @Override
    public Void visitCompoundAssignment(CompoundAssignmentTree tree, Void none) {
        boolean divides = tree.getKind() == Tree.Kind.DIVIDE_ASSIGNMENT || tree.getKind() == Tree.Kind.REMAINDER_ASSIGNMENT;
        Expect.holds("rule 7: no division by assignment: " + tree, !divides);
        return super.visitCompoundAssignment(tree, none);
    }

    @Override
    public Void visitVariable(VariableTree tree, Void none) {
        VariableElement variable = (VariableElement) trees.getElement(getCurrentPath());
        String type = variable.asType().toString();
        Expect.holds("rule 3: type of " + tree, TYPES.contains(type) || type.startsWith(PROGRAM + "."));
        if (variable.getKind() == ElementKind.FIELD) {
            if (variable.getModifiers().contains(Modifier.STATIC)) {
                boolean constant = type.equals("int[]") || variable.getConstantValue() != null;
                boolean isFinal = variable.getModifiers().contains(Modifier.FINAL);
                Expect.holds("rule 5: " + tree, constant && isFinal && CONSTANT_TYPES.contains(type));
            } else {
                fields.merge(variable.getEnclosingElement(), 1, Integer::sum);
            }
        }
        return super.visitVariable(tree, none);
    }

    private String typeOf(Tree tree) {
        TypeMirror type = trees.getTypeMirror(new TreePath(getCurrentPath(), tree));
        return type == null ? "" : type.toString();
    }

    private static boolean isNonZero(Object value) {
        return value instanceof Integer && (Integer) value != 0;
    }

    // The value of a number, of a named constant, or of a product of such; null if it is none.
    private Object constant(ExpressionTree tree) {
        if (tree instanceof ParenthesizedTree inner) {
            return constant(inner.getExpression());
        }
        if (tree instanceof LiteralTree literal) {
            return literal.getValue();
        }
        if (tree instanceof BinaryTree both && both.getKind() == Tree.Kind.MULTIPLY) {
            Object left = constant(both.getLeftOperand());
            Object right = constant(both.getRightOperand());
            return left instanceof Integer && right instanceof Integer ? (Integer) left * (Integer) right : null;
        }
        Element named = trees.getElement(new TreePath(getCurrentPath(), tree));
        return named instanceof VariableElement variable ? variable.getConstantValue() : null;
    }

    private void depths() {
        for (Element start : calls.keySet()) {
            int depth = depthFrom(start, new LinkedHashSet<>());
            Expect.holds("rules 8 and 11: " + start + " calls " + depth + " deep", depth <= MAX_DEPTH);
        }
    }

    private int depthFrom(Element from, Set<Element> open) {
        boolean isNew = open.add(from);
        Expect.holds("rule 8: no recursion: " + open + " " + from, isNew);
        if (!isNew) {
            return MAX_DEPTH + 1;
        }
        int deepest = 0;
        for (Element next : calls.getOrDefault(from, Set.of())) {
            deepest = Math.max(deepest, depthFrom(next, open));
        }
        open.remove(from);
        return 1 + deepest;
    }
}
