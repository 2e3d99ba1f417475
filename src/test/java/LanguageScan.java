import com.sun.source.tree.BinaryTree;
import com.sun.source.tree.BlockTree;
import com.sun.source.tree.ClassTree;
import com.sun.source.tree.CompilationUnitTree;
import com.sun.source.tree.CompoundAssignmentTree;
import com.sun.source.tree.DoWhileLoopTree;
import com.sun.source.tree.ExpressionTree;
import com.sun.source.tree.ForLoopTree;
import com.sun.source.tree.LineMap;
import com.sun.source.tree.MethodInvocationTree;
import com.sun.source.tree.MethodTree;
import com.sun.source.tree.NewArrayTree;
import com.sun.source.tree.NewClassTree;
import com.sun.source.tree.Tree;
import com.sun.source.tree.Tree.Kind;
import com.sun.source.tree.TypeCastTree;
import com.sun.source.tree.VariableTree;
import com.sun.source.tree.WhileLoopTree;
import com.sun.source.util.JavacTask;
import com.sun.source.util.SourcePositions;
import com.sun.source.util.TreePath;
import com.sun.source.util.TreePathScanner;
import com.sun.source.util.Trees;
import java.util.EnumSet;
import java.util.Map;
import java.util.Set;
import java.util.TreeMap;
import java.util.TreeSet;
import javax.lang.model.element.Element;
import javax.lang.model.element.ElementKind;
import javax.lang.model.element.ExecutableElement;
import javax.lang.model.element.Modifier;
import javax.lang.model.element.VariableElement;
import javax.lang.model.type.ArrayType;
import javax.lang.model.type.TypeKind;
import javax.lang.model.type.TypeMirror;

/** Walks over the class and tells what is outside the rules; narrower than they are where the class needs less of them. */
final class LanguageScan extends TreePathScanner<Void, Void> {
    private static final Set<Kind> FORBIDDEN = EnumSet.of(Kind.THROW, Kind.TRY, Kind.CATCH, Kind.SYNCHRONIZED, Kind.ASSERT,
        Kind.LAMBDA_EXPRESSION, Kind.MEMBER_REFERENCE, Kind.PACKAGE, Kind.ANNOTATION_TYPE);
    /** The language has these, within rules that this test does not look at since the class has none of them. */
    private static final Set<Kind> NOT_NEEDED = EnumSet.of(Kind.IMPORT, Kind.RECORD, Kind.ENUM, Kind.INTERFACE, Kind.INSTANCE_OF,
        Kind.STRING_LITERAL, Kind.DOUBLE_LITERAL, Kind.FLOAT_LITERAL, Kind.SWITCH_EXPRESSION, Kind.ANNOTATION);
    private static final Set<String> LIBRARY = Set.of("java.lang.Math.max", "java.lang.Math.min", "java.lang.Math.abs",
        "java.lang.Math.floorDiv", "java.lang.Math.floorMod");
    private static final Set<String> OBJECT_METHODS = Set.of("equals", "hashCode", "toString", "clone", "finalize");
    private static final int MOST_PARAMETERS = 7;
    private static final int MOST_LINES = 60;
    private static final int MOST_FIELDS = 20;

    final Set<String> classes = new TreeSet<>();
    /** What each method of the class calls in it, constructors among them. */
    final Map<String, Set<String>> calls = new TreeMap<>();

    private final Trees trees;
    private final CompilationUnitTree unit;
    private final LineMap lines;
    private final SourcePositions positions;

    LanguageScan(JavacTask task, CompilationUnitTree unit) {
        trees = Trees.instance(task);
        positions = trees.getSourcePositions();
        lines = unit.getLineMap();
        this.unit = unit;
    }

    private void rule(int number, String what, Tree where, boolean isSo) {
        long at = positions.getStartPosition(unit, where);
        Check.holds("rule " + number + ": " + what + " (line " + (at < 0 ? 0 : lines.getLineNumber(at)) + ")", isSo);
    }

    private Element here() {
        return trees.getElement(getCurrentPath());
    }

    @Override
    public Void scan(Tree tree, Void nothing) {
        if (tree != null) {
            rule(6, "no " + tree.getKind() + ", which is outside the language", tree, !FORBIDDEN.contains(tree.getKind()));
            rule(0, "no " + tree.getKind() + ", whose rules this test does not look at", tree, !NOT_NEEDED.contains(tree.getKind()));
        }
        return super.scan(tree, nothing);
    }

    @Override
    public Void visitClass(ClassTree tree, Void nothing) {
        Element own = here();
        Element outer = own.getEnclosingElement();
        Set<Modifier> modifiers = own.getModifiers();
        boolean isOuter = own.toString().equals("QuotaMeter");
        classes.add(own.toString());
        if (isOuter) {
            rule(1, "the class is public and final", tree, modifiers.equals(Set.of(Modifier.PUBLIC, Modifier.FINAL)));
        } else {
            boolean isInside = outer.toString().equals("QuotaMeter") && own.getKind() == ElementKind.CLASS;
            boolean isHidden = !modifiers.contains(Modifier.PUBLIC) && !modifiers.contains(Modifier.PROTECTED);
            rule(1, own + " is static and hidden", tree, modifiers.contains(Modifier.STATIC) && isHidden);
            rule(2, own + " stands directly in the class", tree, isInside);
        }
        rule(2, own + " has nothing above it", tree, tree.getExtendsClause() == null && tree.getImplementsClause().isEmpty());
        int fields = 0;
        for (Tree member : tree.getMembers()) {
            rule(5, "no block that stands for itself", member, !(member instanceof BlockTree));
            fields += member instanceof VariableTree v && !v.getModifiers().getFlags().contains(Modifier.STATIC) ? 1 : 0;
        }
        rule(11, own + " has some twenty fields at most", tree, fields <= MOST_FIELDS);
        return super.visitClass(tree, nothing);
    }

    @Override
    public Void visitMethod(MethodTree tree, Void nothing) {
        ExecutableElement own = (ExecutableElement) here();
        calls.putIfAbsent(nameOf(own), new TreeSet<>());
        rule(11, own + " takes at most seven parameters", tree, tree.getParameters().size() <= MOST_PARAMETERS);
        long from = positions.getStartPosition(unit, tree);
        long to = positions.getEndPosition(unit, tree);
        long length = from < 0 || to < 0 ? 0 : lines.getLineNumber(to) - lines.getLineNumber(from) + 1;
        rule(11, own + " has some sixty lines at most", tree, length <= MOST_LINES);
        rule(6, own + " tells of no exception", tree, tree.getThrows().isEmpty());
        rule(6, own + " is no method of every object", tree, !OBJECT_METHODS.contains(tree.getName().toString()));
        boolean isNative = own.getModifiers().contains(Modifier.NATIVE) || own.getModifiers().contains(Modifier.ABSTRACT);
        rule(2, own + " has its own body", tree, !isNative && tree.getTypeParameters().isEmpty());
        hasNameOfItsOwn(tree, own);
        isKnown(tree, own.getReturnType());
        return super.visitMethod(tree, nothing);
    }

    private void hasNameOfItsOwn(MethodTree tree, ExecutableElement own) {
        if (own.getModifiers().contains(Modifier.PUBLIC)) {
            return;
        }
        for (Tree type : unit.getTypeDecls()) {
            for (Element face : trees.getElement(new TreePath(new TreePath(unit), type)).getEnclosedElements()) {
                boolean isOfFace = face.getKind() == ElementKind.METHOD && face.getModifiers().contains(Modifier.PUBLIC);
                rule(1, own + " has a name of its own", tree, !isOfFace || !face.getSimpleName().equals(own.getSimpleName()));
            }
        }
    }

    @Override
    public Void visitVariable(VariableTree tree, Void nothing) {
        VariableElement own = (VariableElement) here();
        isKnown(tree, own.asType());
        if (own.getModifiers().contains(Modifier.STATIC)) {
            boolean isNumber = own.asType().getKind() == TypeKind.INT || own.asType().getKind() == TypeKind.LONG;
            boolean isFinal = own.getModifiers().contains(Modifier.FINAL);
            rule(5, own + " is a constant number", tree, isFinal && isNumber && own.getConstantValue() != null);
        }
        return super.visitVariable(tree, nothing);
    }

    private void isKnown(Tree tree, TypeMirror type) {
        rule(3, type + " is a number, a boolean, an own class or an array that may be", tree, type.getKind() == TypeKind.VOID || isKnown(type, 0));
    }

    private boolean isKnown(TypeMirror type, int dimensions) {
        switch (type.getKind()) {
            case INT:
            case LONG:
                return dimensions <= 2;
            case BOOLEAN:
                return dimensions <= 1;
            case DECLARED:
                return dimensions <= 1 && type.toString().startsWith("QuotaMeter");
            case ARRAY:
                return isKnown(((ArrayType) type).getComponentType(), dimensions + 1);
            default:
                return false;
        }
    }

    @Override
    public Void visitMethodInvocation(MethodInvocationTree tree, Void nothing) {
        ExecutableElement called = (ExecutableElement) here();
        isCalled(tree, called);
        if (called.getSimpleName().toString().startsWith("floor")) {
            isTestedDivisor(tree, tree.getArguments().get(1));
        }
        return super.visitMethodInvocation(tree, nothing);
    }

    @Override
    public Void visitNewClass(NewClassTree tree, Void nothing) {
        rule(2, "no class without a name", tree, tree.getClassBody() == null);
        isCalled(tree, (ExecutableElement) here());
        return super.visitNewClass(tree, nothing);
    }

    /** The constructor of Object is what the compiler lets every constructor call. */
    private void isCalled(Tree tree, ExecutableElement called) {
        String name = nameOf(called);
        if (name.startsWith("QuotaMeter")) {
            calls.computeIfAbsent(caller(), n -> new TreeSet<>()).add(name);
        } else {
            rule(4, name + " is of the library that may be used", tree, LIBRARY.contains(name) || name.equals("java.lang.Object.<init>"));
        }
    }

    private static String nameOf(ExecutableElement method) {
        return method.getEnclosingElement() + "." + method.getSimpleName();
    }

    /** What a field is set to at first is called by the constructor. */
    private String caller() {
        for (TreePath path = getCurrentPath(); path != null; path = path.getParentPath()) {
            Element around = trees.getElement(path);
            if (path.getLeaf() instanceof MethodTree) {
                return nameOf((ExecutableElement) around);
            }
            if (path.getLeaf() instanceof ClassTree) {
                return around + ".<init>";
            }
        }
        return "";
    }

    @Override
    public Void visitNewArray(NewArrayTree tree, Void nothing) {
        for (ExpressionTree length : tree.getDimensions()) {
            rule(7, "an array's length is a constant of the class", length, isConstant(length));
        }
        return super.visitNewArray(tree, nothing);
    }

    private static boolean isConstant(ExpressionTree tree) {
        return tree.toString().matches("[A-Z][A-Z_]*|[1-9]\\d*L?|\\(long\\)\\(?[A-Z][A-Z_]*\\)?");
    }

    @Override
    public Void visitTypeCast(TypeCastTree tree, Void nothing) {
        boolean isNumber = tree.getType().getKind() == Kind.PRIMITIVE_TYPE;
        rule(6, "no cast but of numbers: " + tree, tree, isNumber);
        return super.visitTypeCast(tree, nothing);
    }

    @Override
    public Void visitBinary(BinaryTree tree, Void nothing) {
        if (tree.getKind() == Kind.DIVIDE || tree.getKind() == Kind.REMAINDER) {
            isTestedDivisor(tree, tree.getRightOperand());
        }
        return super.visitBinary(tree, nothing);
    }

    @Override
    public Void visitCompoundAssignment(CompoundAssignmentTree tree, Void nothing) {
        if (tree.getKind() == Kind.DIVIDE_ASSIGNMENT || tree.getKind() == Kind.REMAINDER_ASSIGNMENT) {
            isTestedDivisor(tree, tree.getExpression());
        }
        return super.visitCompoundAssignment(tree, nothing);
    }

    private void isTestedDivisor(Tree tree, ExpressionTree divisor) {
        boolean isTested = textOfMethod().contains(divisor + " < 1");
        rule(7, "the divisor " + divisor + " is a constant or looked at before", tree, isTested || isConstant(divisor));
    }

    private String textOfMethod() {
        TreePath path = getCurrentPath();
        while (path != null && !(path.getLeaf() instanceof MethodTree)) {
            path = path.getParentPath();
        }
        return path == null ? "" : path.getLeaf().toString();
    }

    @Override
    public Void visitForLoop(ForLoopTree tree, Void nothing) {
        boolean isCounted = tree.getCondition() != null && tree.getInitializer().size() == 1 && tree.getUpdate().size() == 1;
        rule(9, "a loop counts against a bound, or follows a chain", tree, isCounted && hasBound(tree.getCondition(), tree.getUpdate().get(0)));
        return super.visitForLoop(tree, nothing);
    }

    /** A counter that rises to what it is compared with, or a chain that is followed outwards to its end. */
    private static boolean hasBound(ExpressionTree condition, Tree update) {
        String step = update.toString();
        if (step.endsWith("++;")) {
            return condition.toString().contains(step.substring(0, step.length() - 3) + " < ");
        }
        return step.matches("(\\w+) = \\1\\.outer;") && condition.toString().matches("\\w+ != null");
    }

    @Override
    public Void visitWhileLoop(WhileLoopTree tree, Void nothing) {
        String[] words = tree.getCondition().toString().replaceAll("^\\(+", "").split(" ");
        boolean isCounted = words.length > 2 && words[1].equals("<") && tree.getStatement().toString().contains(words[0] + "++;");
        rule(9, "a loop counts against a bound", tree, isCounted);
        return super.visitWhileLoop(tree, nothing);
    }

    @Override
    public Void visitDoWhileLoop(DoWhileLoopTree tree, Void nothing) {
        rule(9, "no loop looks for its end only behind itself", tree, false);
        return super.visitDoWhileLoop(tree, nothing);
    }
}
