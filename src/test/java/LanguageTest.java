import com.sun.source.tree.ArrayTypeTree;
import com.sun.source.tree.BinaryTree;
import com.sun.source.tree.ClassTree;
import com.sun.source.tree.CompilationUnitTree;
import com.sun.source.tree.CompoundAssignmentTree;
import com.sun.source.tree.ExpressionTree;
import com.sun.source.tree.ForLoopTree;
import com.sun.source.tree.LiteralTree;
import com.sun.source.tree.MethodInvocationTree;
import com.sun.source.tree.MethodTree;
import com.sun.source.tree.NewArrayTree;
import com.sun.source.tree.NewClassTree;
import com.sun.source.tree.Tree;
import com.sun.source.tree.Tree.Kind;
import com.sun.source.tree.VariableTree;
import com.sun.source.tree.WhileLoopTree;
import com.sun.source.util.JavacTask;
import com.sun.source.util.TreePath;
import com.sun.source.util.TreePathScanner;
import com.sun.source.util.Trees;
import java.io.File;
import java.io.IOException;
import java.util.EnumSet;
import java.util.HashMap;
import java.util.HashSet;
import java.util.Map;
import java.util.Set;
import java.util.TreeMap;
import java.util.TreeSet;
import javax.lang.model.element.Element;
import javax.lang.model.element.ElementKind;
import javax.lang.model.element.ExecutableElement;
import javax.lang.model.element.Modifier;
import javax.lang.model.element.TypeElement;
import javax.lang.model.element.VariableElement;
import javax.lang.model.type.ArrayType;
import javax.lang.model.type.TypeKind;
import javax.lang.model.type.TypeMirror;
import javax.tools.JavaCompiler;
import javax.tools.StandardJavaFileManager;
import javax.tools.ToolProvider;

/**
 * LANGUAGE.md, as far as the compiler's own tree of the source shows it; in part more strictly: the class has no recursion,
 * no null, and makes nothing behind its constructor.
 */
final class LanguageTest extends TreePathScanner<Void, Void> {
    private static final int MOST_PARAMETERS = 7;
    private static final int MOST_LINES = 60;
    private static final int MOST_CALLS_DEEP = 8;
    private static final int MOST_CLASSES = 12;
    private static final int MOST_FIELDS = 20;

    private static final Set<Kind> KINDS = EnumSet.of(Kind.COMPILATION_UNIT, Kind.IMPORT, Kind.CLASS, Kind.MODIFIERS, Kind.VARIABLE,
            Kind.METHOD, Kind.BLOCK, Kind.PRIMITIVE_TYPE, Kind.ARRAY_TYPE, Kind.IDENTIFIER, Kind.MEMBER_SELECT, Kind.INT_LITERAL,
            Kind.LONG_LITERAL, Kind.CHAR_LITERAL, Kind.STRING_LITERAL, Kind.BOOLEAN_LITERAL, Kind.EXPRESSION_STATEMENT,
            Kind.METHOD_INVOCATION, Kind.NEW_CLASS, Kind.NEW_ARRAY, Kind.ARRAY_ACCESS, Kind.TYPE_CAST, Kind.PARENTHESIZED,
            Kind.CONDITIONAL_EXPRESSION, Kind.ASSIGNMENT, Kind.PLUS_ASSIGNMENT, Kind.MINUS_ASSIGNMENT, Kind.MULTIPLY_ASSIGNMENT,
            Kind.AND_ASSIGNMENT, Kind.OR_ASSIGNMENT, Kind.XOR_ASSIGNMENT, Kind.POSTFIX_INCREMENT, Kind.POSTFIX_DECREMENT,
            Kind.PREFIX_INCREMENT, Kind.PREFIX_DECREMENT, Kind.UNARY_MINUS, Kind.LOGICAL_COMPLEMENT, Kind.BITWISE_COMPLEMENT,
            Kind.PLUS, Kind.MINUS, Kind.MULTIPLY, Kind.DIVIDE, Kind.REMAINDER, Kind.AND, Kind.OR, Kind.XOR, Kind.LEFT_SHIFT,
            Kind.RIGHT_SHIFT, Kind.UNSIGNED_RIGHT_SHIFT, Kind.EQUAL_TO, Kind.NOT_EQUAL_TO, Kind.LESS_THAN, Kind.GREATER_THAN,
            Kind.LESS_THAN_EQUAL, Kind.GREATER_THAN_EQUAL, Kind.CONDITIONAL_AND, Kind.CONDITIONAL_OR, Kind.IF, Kind.FOR_LOOP,
            Kind.WHILE_LOOP, Kind.SWITCH, Kind.CASE, Kind.BREAK, Kind.CONTINUE, Kind.RETURN);

    private static final Set<String> LIBRARY = Set.of("java.lang.String.length", "java.lang.String.charAt",
            "java.lang.String.isEmpty", "java.lang.String.equals", "java.lang.String.indexOf", "java.lang.String.substring",
            "java.lang.String.toCharArray", "java.lang.System.arraycopy", "java.util.Arrays.fill", "java.util.Arrays.copyOf",
            "java.util.Arrays.copyOfRange", "java.lang.Integer.compare", "java.lang.Integer.bitCount", "java.lang.Long.compare",
            "java.lang.Math.max", "java.lang.Math.min", "java.lang.Math.abs", "java.lang.Math.floorDiv",
            "java.lang.Math.floorMod");

    private final Trees trees;
    private final CompilationUnitTree unit;
    private final Map<Element, Set<Element>> calls = new HashMap<>();
    private final Map<Element, Integer> depths = new HashMap<>();
    private final Map<String, Integer> fields = new TreeMap<>();
    private final Set<String> classes = new TreeSet<>();
    private Element method;
    private boolean builds;
    private int wrong;

    private LanguageTest(Trees trees, CompilationUnitTree unit) {
        this.trees = trees;
        this.unit = unit;
    }

    public static void main(String[] args) throws IOException {
        JavaCompiler compiler = ToolProvider.getSystemJavaCompiler();
        try (StandardJavaFileManager files = compiler.getStandardFileManager(null, null, null)) {
            JavacTask task = (JavacTask) compiler.getTask(null, files, null, null, null,
                    files.getJavaFileObjects(new File("src/main/java/SighChart.java")));
            CompilationUnitTree unit = task.parse().iterator().next();
            task.analyze();
            LanguageTest test = new LanguageTest(Trees.instance(task), unit);
            test.scan(unit, null);
            test.whole();
            System.out.println("LanguageTest: " + test.classes.size() + " classes, " + test.calls.size() + " methods, "
                    + test.wrong + " wrong");
            System.exit(test.wrong == 0 ? 0 : 1);
        }
    }

    private void wrong(int rule, Tree where, String what) {
        wrong++;
        long at = where == null ? 0 : trees.getSourcePositions().getStartPosition(unit, where);
        System.out.println("rule " + rule + ", line " + unit.getLineMap().getLineNumber(at) + ": " + what);
    }

    private Element here() {
        return trees.getElement(getCurrentPath());
    }

    @Override
    public Void scan(Tree tree, Void nothing) {
        if (tree != null && !KINDS.contains(tree.getKind())) {
            wrong(tree.getKind() == Kind.NULL_LITERAL ? 7 : 10, tree, tree.getKind() + " " + tree);
        }
        return super.scan(tree, nothing);
    }

    @Override
    public Void visitClass(ClassTree tree, Void nothing) {
        Element it = here();
        classes.add(it.toString());
        boolean outer = it.getEnclosingElement().getKind() == ElementKind.PACKAGE;
        Set<Modifier> due = outer ? Set.of(Modifier.PUBLIC, Modifier.FINAL) : Set.of(Modifier.STATIC);
        if (!it.getModifiers().containsAll(due) || !outer && it.getModifiers().contains(Modifier.PUBLIC)) {
            wrong(outer ? 1 : 2, tree, it + " is " + it.getModifiers());
        }
        if (!outer && !it.getEnclosingElement().toString().equals("SighChart")) {
            wrong(2, tree, it + " is not a class right inside SighChart");
        }
        for (Tree member : tree.getMembers()) {
            if (member.getKind() == Kind.BLOCK) {
                wrong(5, member, "a block of its own in " + it);
            }
        }
        return super.visitClass(tree, nothing);
    }

    @Override
    public Void visitVariable(VariableTree tree, Void nothing) {
        VariableElement it = (VariableElement) here();
        type(tree, it.asType());
        boolean wasBuilding = builds;
        if (it.getKind() == ElementKind.FIELD) {
            builds = true;
            field(tree, it);
        }
        super.visitVariable(tree, nothing);
        builds = wasBuilding;
        return null;
    }

    private void field(VariableTree tree, VariableElement it) {
        String owner = it.getEnclosingElement().toString();
        if (it.getModifiers().contains(Modifier.STATIC)) {
            if (it.getConstantValue() == null) {
                wrong(5, tree, it + " is no constant");
            }
            return;
        }
        fields.merge(owner, 1, Integer::sum);
        if (!it.asType().getKind().isPrimitive() && tree.getInitializer() == null) {
            wrong(7, tree, it + " may be null");
        }
        if (owner.equals("SighChart") && !it.getModifiers().contains(Modifier.PRIVATE)) {
            wrong(1, tree, it + " is not private");
        }
    }

    private void type(Tree tree, TypeMirror type) {
        int dimensions = 0;
        TypeMirror part = type;
        while (part.getKind() == TypeKind.ARRAY) {
            dimensions++;
            part = ((ArrayType) part).getComponentType();
        }
        Set<TypeKind> numbers = EnumSet.of(TypeKind.INT, TypeKind.LONG, TypeKind.SHORT, TypeKind.BYTE, TypeKind.CHAR, TypeKind.BOOLEAN);
        boolean number = numbers.contains(part.getKind());
        boolean own = part.toString().startsWith("SighChart.");
        boolean text = part.toString().equals("java.lang.String");
        boolean fine = number && dimensions <= 2 || own && dimensions <= 1 || text && dimensions == 0
                || part.getKind() == TypeKind.VOID && dimensions == 0;
        if (!fine) {
            wrong(3, tree, "the type " + type);
        }
    }

    @Override
    public Void visitMethod(MethodTree tree, Void nothing) {
        ExecutableElement it = (ExecutableElement) here();
        method = it;
        calls.computeIfAbsent(it, m -> new HashSet<>());
        type(tree, it.getReturnType());
        if (tree.getParameters().size() > MOST_PARAMETERS) {
            wrong(11, tree, it + " takes " + tree.getParameters().size() + " parameters");
        }
        // A constructor that is not written out stands at its class.
        boolean written = tree.getName().contentEquals("<init>") || tree.getReturnType() != null;
        long lines = lineAt(trees.getSourcePositions().getEndPosition(unit, tree)) - lineAt(trees.getSourcePositions().getStartPosition(unit, tree));
        if (written && lines >= MOST_LINES) {
            wrong(11, tree, it + " has " + (lines + 1) + " lines");
        }
        builds = it.getKind() == ElementKind.CONSTRUCTOR;
        super.visitMethod(tree, nothing);
        builds = false;
        method = null;
        return null;
    }

    private long lineAt(long position) {
        return unit.getLineMap().getLineNumber(Math.max(0, position));
    }

    @Override
    public Void visitMethodInvocation(MethodInvocationTree tree, Void nothing) {
        Element called = here();
        TypeElement owner = (TypeElement) called.getEnclosingElement();
        String name = owner + "." + called.getSimpleName();
        boolean hidden = called.getKind() == ElementKind.CONSTRUCTOR && owner.toString().equals("java.lang.Object");
        if (isOwn(owner)) {
            if (method != null) {
                calls.computeIfAbsent(method, m -> new HashSet<>()).add(called);
            }
        } else if (!hidden && !LIBRARY.contains(name)) {
            wrong(4, tree, "the library's " + name);
        }
        return super.visitMethodInvocation(tree, nothing);
    }

    private static boolean isOwn(TypeElement owner) {
        return owner.toString().equals("SighChart") || owner.toString().startsWith("SighChart.");
    }

    @Override
    public Void visitNewClass(NewClassTree tree, Void nothing) {
        made(tree);
        return super.visitNewClass(tree, nothing);
    }

    @Override
    public Void visitNewArray(NewArrayTree tree, Void nothing) {
        made(tree);
        return super.visitNewArray(tree, nothing);
    }

    private void made(Tree tree) {
        if (!builds) {
            wrong(12, tree, "made behind the constructor: " + tree);
        }
    }

    @Override
    public Void visitBinary(BinaryTree tree, Void nothing) {
        boolean text = trees.getTypeMirror(getCurrentPath()).toString().equals("java.lang.String");
        if (text) {
            wrong(10, tree, "texts joined by +: " + tree);
        }
        if (tree.getKind() == Kind.DIVIDE || tree.getKind() == Kind.REMAINDER) {
            divisor(tree, tree.getRightOperand());
        }
        return super.visitBinary(tree, nothing);
    }

    /** A divisor is a number that stands there, a constant, or a variable that the same method compares with 0. */
    private void divisor(Tree tree, ExpressionTree by) {
        if (by instanceof LiteralTree literal && literal.getValue() instanceof Number number && number.longValue() != 0) {
            return;
        }
        Element named = trees.getElement(new TreePath(getCurrentPath(), by));
        if (named instanceof VariableElement constant && constant.getConstantValue() instanceof Number number && number.longValue() != 0) {
            return;
        }
        String body = trees.getTree(method).toString();
        boolean asked = body.contains(by + " > 0") || body.contains(by + " != 0") || body.contains(by + " == 0");
        if (!asked || by.getKind() != Kind.IDENTIFIER) {
            wrong(7, tree, "divided by what was not looked at: " + tree);
        }
    }

    @Override
    public Void visitCompoundAssignment(CompoundAssignmentTree tree, Void nothing) {
        if (trees.getTypeMirror(getCurrentPath()).toString().equals("java.lang.String")) {
            wrong(10, tree, "texts joined by +: " + tree);
        }
        return super.visitCompoundAssignment(tree, nothing);
    }

    @Override
    public Void visitForLoop(ForLoopTree tree, Void nothing) {
        if (tree.getCondition() == null || tree.getUpdate().isEmpty()) {
            wrong(9, tree, "a loop without a bound or a step");
        }
        return super.visitForLoop(tree, nothing);
    }

    /** The whiles of this class run along the tape: both are counters against its end. */
    @Override
    public Void visitWhileLoop(WhileLoopTree tree, Void nothing) {
        String condition = tree.getCondition().toString();
        if (!condition.startsWith("(place < end && ") && !condition.startsWith("(behind < end && ")) {
            wrong(9, tree, "a while whose end is not seen: " + condition);
        }
        return super.visitWhileLoop(tree, nothing);
    }

    @Override
    public Void visitArrayType(ArrayTypeTree tree, Void nothing) {
        type(tree, trees.getTypeMirror(getCurrentPath()));
        return super.visitArrayType(tree, nothing);
    }

    private void whole() {
        if (classes.size() > MOST_CLASSES) {
            wrong(11, null, classes.size() + " classes: " + classes);
        }
        fields.forEach((owner, many) -> {
            if (many > MOST_FIELDS) {
                wrong(11, null, owner + " has " + many + " fields");
            }
        });
        for (Element one : calls.keySet()) {
            int deep = depthOf(one, new HashSet<>());
            if (deep > MOST_CALLS_DEEP) {
                wrong(11, null, one + " goes " + deep + " deep");
            }
        }
    }

    /** How many calls stand open at most, this one among them. */
    private int depthOf(Element one, Set<Element> open) {
        if (!open.add(one)) {
            wrong(8, null, one + " comes to call itself");
            return 0;
        }
        Integer known = depths.get(one);
        int deepest = 0;
        if (known == null) {
            for (Element called : calls.getOrDefault(one, Set.of())) {
                deepest = Math.max(deepest, depthOf(called, open));
            }
        }
        open.remove(one);
        int depth = known == null ? deepest + 1 : known;
        depths.put(one, depth);
        return depth;
    }
}
