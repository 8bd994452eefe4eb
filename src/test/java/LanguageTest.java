import com.sun.source.tree.BinaryTree;
import com.sun.source.tree.ClassTree;
import com.sun.source.tree.CompilationUnitTree;
import com.sun.source.tree.CompoundAssignmentTree;
import com.sun.source.tree.ExpressionTree;
import com.sun.source.tree.LiteralTree;
import com.sun.source.tree.MethodInvocationTree;
import com.sun.source.tree.MethodTree;
import com.sun.source.tree.NewArrayTree;
import com.sun.source.tree.NewClassTree;
import com.sun.source.tree.Tree;
import com.sun.source.tree.TypeCastTree;
import com.sun.source.util.JavacTask;
import com.sun.source.util.TreePath;
import com.sun.source.util.TreePathScanner;
import com.sun.source.util.Trees;
import java.io.IOException;
import java.util.HashMap;
import java.util.LinkedHashMap;
import java.util.LinkedHashSet;
import java.util.List;
import java.util.Map;
import java.util.Set;
import javax.lang.model.element.Element;
import javax.lang.model.element.ElementKind;
import javax.lang.model.element.VariableElement;
import javax.lang.model.type.TypeKind;
import javax.tools.JavaCompiler;
import javax.tools.StandardJavaFileManager;
import javax.tools.ToolProvider;

/** Rules of LANGUAGE.md that are read off the compiler's tree of the class. */
public final class LanguageTest extends TreePathScanner<Void, Element> {
    private static final String SOURCE = "src/main/java/LastAsked.java";
    private static final int MOST_CLASSES = 12;
    private static final int MOST_LINES = 60;
    private static final int MOST_PARAMETERS = 7;
    private static final int MOST_DEPTH = 8;
    private static final Set<String> LIBRARY = Set.of("java.lang.Integer.bitCount(int)", "java.lang.Math.max(int,int)",
        "java.lang.Math.min(int,int)", "java.lang.System.arraycopy(java.lang.Object,int,java.lang.Object,int,int)",
        "java.lang.Object.Object()");
    /** Divisors that are no constants: each is looked at ahead of it, and each was read. */
    private static final Set<String> TESTED_DIVISORS = Set.of("term: common", "commonDivisor: y", "meanByRow: unit",
        "hourBy: weight[k]", "hourBy: span[k]");

    private final Due due = new Due();
    private final Trees trees;
    private final CompilationUnitTree unit;
    private final Map<Element, Set<Element>> calls = new LinkedHashMap<>();
    private final Map<Element, Integer> depths = new HashMap<>();
    private int classes = 0;

    private LanguageTest() throws IOException {
        JavaCompiler compiler = ToolProvider.getSystemJavaCompiler();
        StandardJavaFileManager files = compiler.getStandardFileManager(null, null, null);
        JavacTask task = (JavacTask) compiler.getTask(null, files, null, List.of("--release", "17", "-proc:none"), null,
            files.getJavaFileObjects(SOURCE));
        unit = task.parse().iterator().next();
        task.analyze();
        trees = Trees.instance(task);
    }

    private Element here() {
        return trees.getElement(getCurrentPath());
    }

    @Override
    public Void visitClass(ClassTree tree, Element inside) {
        classes++;
        return super.visitClass(tree, inside);
    }

    @Override
    public Void visitMethod(MethodTree tree, Element inside) {
        Element method = here();
        calls.putIfAbsent(method, new LinkedHashSet<>());
        long first = unit.getLineMap().getLineNumber(trees.getSourcePositions().getStartPosition(unit, tree));
        long last = unit.getLineMap().getLineNumber(trees.getSourcePositions().getEndPosition(unit, tree));
        due.is("rule 11: lines of " + method + ", " + (last - first + 1), last - first < MOST_LINES, true);
        due.is("rule 11: parameters of " + method, tree.getParameters().size() <= MOST_PARAMETERS, true);
        return super.visitMethod(tree, method);
    }

    @Override
    public Void visitMethodInvocation(MethodInvocationTree tree, Element inside) {
        Element called = here();
        String owner = called.getEnclosingElement().toString();
        if (!owner.equals("LastAsked") && !owner.startsWith("LastAsked.")) {
            due.is("rule 4: the library's " + owner + "." + called, LIBRARY.contains(owner + "." + called), true);
        } else if (inside != null) {
            calls.get(inside).add(called);
        }
        return super.visitMethodInvocation(tree, inside);
    }

    /** Rooms are made with the object, none by a call; what a call makes is the exception of led. */
    @Override
    public Void visitNewClass(NewClassTree tree, Element inside) {
        boolean early = inside == null || inside.getKind() == ElementKind.CONSTRUCTOR;
        boolean thrown = tree.getIdentifier().toString().equals("NoSuchElementException")
            && inside != null && inside.getSimpleName().contentEquals("led");
        due.is("rule 12: " + tree + " in " + inside, early || thrown, true);
        return super.visitNewClass(tree, inside);
    }

    @Override
    public Void visitNewArray(NewArrayTree tree, Element inside) {
        boolean early = inside == null || inside.getKind() == ElementKind.CONSTRUCTOR;
        boolean known = tree.getDimensions().stream().allMatch(this::isConstant);
        due.is("rule 12: " + tree + " in " + inside, early && known, true);
        return super.visitNewArray(tree, inside);
    }

    @Override
    public Void visitTypeCast(TypeCastTree tree, Element inside) {
        due.is("rule 7: " + tree + " in " + inside, tree.getType().getKind() == Tree.Kind.PRIMITIVE_TYPE, true);
        return super.visitTypeCast(tree, inside);
    }

    @Override
    public Void visitBinary(BinaryTree tree, Element inside) {
        boolean divides = tree.getKind() == Tree.Kind.DIVIDE || tree.getKind() == Tree.Kind.REMAINDER;
        if (divides) {
            divisor(tree.getRightOperand(), inside);
        }
        // Two texts or two objects are never held against each other.
        if (tree.getKind() == Tree.Kind.EQUAL_TO || tree.getKind() == Tree.Kind.NOT_EQUAL_TO) {
            TypeKind kind = trees.getTypeMirror(new TreePath(getCurrentPath(), tree.getLeftOperand())).getKind();
            due.is("rule 6: " + tree + " in " + inside, kind.isPrimitive(), true);
        }
        return super.visitBinary(tree, inside);
    }

    @Override
    public Void visitCompoundAssignment(CompoundAssignmentTree tree, Element inside) {
        boolean divides = tree.getKind() == Tree.Kind.DIVIDE_ASSIGNMENT || tree.getKind() == Tree.Kind.REMAINDER_ASSIGNMENT;
        if (divides) {
            divisor(tree.getExpression(), inside);
        }
        return super.visitCompoundAssignment(tree, inside);
    }

    private void divisor(ExpressionTree tree, Element inside) {
        String told = (inside == null ? "" : inside.getSimpleName()) + ": " + tree;
        due.is("rule 7: the divisor of " + told, isConstant(tree) || TESTED_DIVISORS.contains(told), true);
    }

    private boolean isConstant(ExpressionTree tree) {
        if (tree instanceof BinaryTree two) {
            return isConstant(two.getLeftOperand()) && isConstant(two.getRightOperand());
        }
        Element element = trees.getElement(new TreePath(getCurrentPath(), tree));
        return tree instanceof LiteralTree || element instanceof VariableElement v && v.getConstantValue() != null;
    }

    /** How many calls stand open at most, this one's too; one that comes back to itself has no end. */
    private int depth(Element method, Set<Element> open) {
        if (depths.containsKey(method)) {
            return depths.get(method);
        }
        boolean again = !open.add(method);
        due.is("rule 8: " + method + " calls itself", again, false);
        int most = 0;
        if (!again) {
            for (Element called : calls.getOrDefault(method, Set.of())) {
                most = Math.max(most, depth(called, open));
            }
            open.remove(method);
            depths.put(method, most + 1);
        }
        return most + 1;
    }

    private void end() {
        for (Element method : calls.keySet()) {
            int depth = depth(method, new LinkedHashSet<>());
            due.is("rule 11: calls open at once from " + method + ", " + depth, depth <= MOST_DEPTH, true);
        }
        due.is("rule 11: classes, " + classes, classes <= MOST_CLASSES, true);
        due.end();
    }

    public static void main(String[] args) throws IOException {
        LanguageTest test = new LanguageTest();
        test.scan(test.unit, null);
        test.end();
    }
}
