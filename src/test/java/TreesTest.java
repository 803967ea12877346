import com.sun.source.tree.ArrayAccessTree;
import com.sun.source.tree.AssignmentTree;
import com.sun.source.tree.BinaryTree;
import com.sun.source.tree.ClassTree;
import com.sun.source.tree.CompilationUnitTree;
import com.sun.source.tree.CompoundAssignmentTree;
import com.sun.source.tree.DoWhileLoopTree;
import com.sun.source.tree.EnhancedForLoopTree;
import com.sun.source.tree.ExpressionTree;
import com.sun.source.tree.ForLoopTree;
import com.sun.source.tree.MethodInvocationTree;
import com.sun.source.tree.MethodTree;
import com.sun.source.tree.NewArrayTree;
import com.sun.source.tree.NewClassTree;
import com.sun.source.tree.Tree;
import com.sun.source.tree.TypeCastTree;
import com.sun.source.tree.UnaryTree;
import com.sun.source.tree.VariableTree;
import com.sun.source.tree.WhileLoopTree;
import com.sun.source.util.JavacTask;
import com.sun.source.util.TreePath;
import com.sun.source.util.TreePathScanner;
import com.sun.source.util.Trees;
import java.io.File;
import java.io.IOException;
import java.util.ArrayList;
import java.util.HashSet;
import java.util.LinkedHashMap;
import java.util.List;
import java.util.Map;
import java.util.Set;
import java.util.TreeSet;
import javax.lang.model.element.Element;
import javax.lang.model.element.ElementKind;
import javax.lang.model.element.ExecutableElement;
import javax.lang.model.element.Modifier;
import javax.lang.model.element.VariableElement;
import javax.lang.model.type.TypeKind;
import javax.lang.model.type.TypeMirror;
import javax.tools.JavaCompiler;
import javax.tools.StandardJavaFileManager;
import javax.tools.ToolProvider;

/** The rules of ../shared/LANGUAGE.md for which the program must be read as javac reads it: types, loops, what calls what. */
public final class TreesTest extends TreePathScanner<Void, Void> {
    private static final File SOURCE = new File("src/main/java/LeavesObject.java");
    private static final int MOST_DEEP = 8, MOST_LINES = 60, MOST_CLASSES = 12;

    private static final Set<Tree.Kind> NOT_THESE = Set.of(Tree.Kind.THROW, Tree.Kind.TRY, Tree.Kind.CATCH,
        Tree.Kind.SYNCHRONIZED, Tree.Kind.ASSERT, Tree.Kind.LAMBDA_EXPRESSION, Tree.Kind.MEMBER_REFERENCE,
        Tree.Kind.INSTANCE_OF, Tree.Kind.SWITCH_EXPRESSION, Tree.Kind.YIELD, Tree.Kind.BINDING_PATTERN,
        Tree.Kind.ANNOTATION, Tree.Kind.UNBOUNDED_WILDCARD, Tree.Kind.UNION_TYPE, Tree.Kind.ERRONEOUS);
    /** What the class needs of rule 4's library. */
    private static final Set<String> LIBRARY = Set.of("java.lang.String.length()", "java.lang.String.charAt(int)",
        "java.lang.Math.max(int,int)", "java.lang.Math.min(int,int)", "java.lang.Integer.bitCount(int)",
        "java.lang.System.arraycopy(java.lang.Object,int,java.lang.Object,int,int)",
        "java.util.Arrays.fill(int[],int)", "java.util.Arrays.fill(long[],long)", "java.lang.Object.Object()");
    private static final Set<String> NUMBERS = Set.of("int", "long", "short", "byte", "char", "boolean");

    private static int wrong = 0;

    private final Trees trees;
    private final CompilationUnitTree unit;
    private final Map<ExecutableElement, Set<ExecutableElement>> calls = new LinkedHashMap<>();
    private final Set<String> ownTypes = new HashSet<>();
    private ExecutableElement within;
    private int classes;
    private int methods;

    private TreesTest(Trees trees, CompilationUnitTree unit) {
        this.trees = trees;
        this.unit = unit;
    }

    private static void must(String rule, boolean kept) {
        if (!kept) {
            wrong++;
            System.out.println("not kept: " + rule);
        }
    }

    private String where(Tree tree) {
        long place = trees.getSourcePositions().getStartPosition(unit, tree);
        return " (line " + unit.getLineMap().getLineNumber(place) + ")";
    }

    private Element elementOf(Tree tree) {
        return trees.getElement(TreePath.getPath(unit, tree));
    }

    private TypeMirror typeOf(Tree tree) {
        return trees.getTypeMirror(TreePath.getPath(unit, tree));
    }

    private static String nameOf(Element element) {
        return element.getEnclosingElement() + "." + element;
    }

    // ---- rules 2, 3, 5, 6, 10, 12: what stands where

    @Override
    public Void scan(Tree tree, Void nothing) {
        if (tree != null) {
            must("2, 6, 10: no " + tree.getKind() + where(tree), !NOT_THESE.contains(tree.getKind()));
        }
        return super.scan(tree, nothing);
    }

    @Override
    public Void visitClass(ClassTree tree, Void nothing) {
        Tree around = getCurrentPath().getParentPath().getLeaf();
        classes++;
        ownTypes.add(elementOf(tree).toString());
        if (around != unit) {
            must("2: a class inside is static, of the one class" + where(tree),
                around instanceof ClassTree && tree.getModifiers().getFlags().contains(Modifier.STATIC));
            must("1: a class inside is private or package-visible" + where(tree),
                !tree.getModifiers().getFlags().contains(Modifier.PUBLIC));
        }
        return super.visitClass(tree, nothing);
    }

    private boolean isAllowed(TypeMirror type) {
        String name = type.toString();
        String item = name.replaceAll("(\\[\\])+$", "");
        boolean isNumber = NUMBERS.contains(item);
        int dimensions = (name.length() - item.length()) / 2;
        return dimensions <= (isNumber ? 2 : 1) && (isNumber || ownTypes.contains(item) || name.equals("java.lang.String"));
    }

    @Override
    public Void visitVariable(VariableTree tree, Void nothing) {
        VariableElement variable = (VariableElement) elementOf(tree);
        must("3: the type of " + tree.getName() + where(tree), isAllowed(variable.asType()));
        if (variable.getKind() == ElementKind.FIELD && variable.getModifiers().contains(Modifier.STATIC)) {
            boolean isWrittenOut = tree.getInitializer() instanceof NewArrayTree row && row.getInitializers() != null;
            must("5: " + tree.getName() + " is final", variable.getModifiers().contains(Modifier.FINAL));
            must("5: " + tree.getName() + " is a constant or a row written out",
                variable.getConstantValue() != null || isWrittenOut);
        }
        return super.visitVariable(tree, nothing);
    }

    private void changes(ExpressionTree what, Tree where) {
        if (what instanceof ArrayAccessTree item) {
            Element row = elementOf(item.getExpression());
            must("5: a static row is never changed" + where(where), row == null || !row.getModifiers().contains(Modifier.STATIC));
        }
    }

    @Override
    public Void visitAssignment(AssignmentTree tree, Void nothing) {
        changes(tree.getVariable(), tree);
        return super.visitAssignment(tree, nothing);
    }

    @Override
    public Void visitCompoundAssignment(CompoundAssignmentTree tree, Void nothing) {
        changes(tree.getVariable(), tree);
        must("10: no text is joined by +=" + where(tree), typeOf(tree.getVariable()).getKind().isPrimitive());
        return super.visitCompoundAssignment(tree, nothing);
    }

    @Override
    public Void visitUnary(UnaryTree tree, Void nothing) {
        changes(tree.getExpression(), tree);
        return super.visitUnary(tree, nothing);
    }

    /** Between texts there is neither + nor ==; what is divided by is a constant, or is named here. */
    @Override
    public Void visitBinary(BinaryTree tree, Void nothing) {
        TypeMirror left = typeOf(tree.getLeftOperand());
        TypeMirror right = typeOf(tree.getRightOperand());
        boolean areTexts = left.toString().equals("java.lang.String") || right.toString().equals("java.lang.String");
        must("6, 10: no " + tree.getKind() + " of texts" + where(tree), !areTexts);
        if (tree.getKind() == Tree.Kind.DIVIDE || tree.getKind() == Tree.Kind.REMAINDER) {
            Element by = elementOf(tree.getRightOperand());
            boolean isConstant = tree.getRightOperand().getKind() == Tree.Kind.INT_LITERAL
                || by instanceof VariableElement number && number.getConstantValue() instanceof Integer n && n != 0;
            must("7: it divides by " + tree.getRightOperand() + where(tree),
                isConstant || Set.of("d", "divisor").contains(tree.getRightOperand().toString()));
        }
        return super.visitBinary(tree, nothing);
    }

    @Override
    public Void visitTypeCast(TypeCastTree tree, Void nothing) {
        must("6: a cast is one of numbers" + where(tree), typeOf(tree.getType()).getKind().isPrimitive());
        return super.visitTypeCast(tree, nothing);
    }

    private boolean isInConstructor() {
        return within == null || within.getKind() == ElementKind.CONSTRUCTOR;
    }

    @Override
    public Void visitNewClass(NewClassTree tree, Void nothing) {
        must("2: no anonymous class" + where(tree), tree.getClassBody() == null);
        must("4: it makes an own object" + where(tree), ownTypes.contains(typeOf(tree).toString()));
        must("12: made in a constructor" + where(tree), isInConstructor());
        return super.visitNewClass(tree, nothing);
    }

    @Override
    public Void visitNewArray(NewArrayTree tree, Void nothing) {
        must("12: made in a constructor" + where(tree), isInConstructor());
        return super.visitNewArray(tree, nothing);
    }

    // ---- rule 9: loops

    @Override
    public Void visitForLoop(ForLoopTree tree, Void nothing) {
        String condition = String.valueOf(tree.getCondition());
        must("9: a counter against a bound" + where(tree), condition.matches(".*(<|<=|>|>=) .*") && tree.getUpdate().size() == 1);
        return super.visitForLoop(tree, nothing);
    }

    @Override
    public Void visitWhileLoop(WhileLoopTree tree, Void nothing) {
        must("9: a counter against a bound" + where(tree), tree.getCondition().toString().matches("\\(\\w+ < \\w+ && .*")
            && tree.getStatement().toString().contains("++"));
        return super.visitWhileLoop(tree, nothing);
    }

    @Override
    public Void visitDoWhileLoop(DoWhileLoopTree tree, Void nothing) {
        must("9: no do is needed" + where(tree), false);
        return super.visitDoWhileLoop(tree, nothing);
    }

    @Override
    public Void visitEnhancedForLoop(EnhancedForLoopTree tree, Void nothing) {
        must("9: for over a row alone" + where(tree), typeOf(tree.getExpression()).getKind() == TypeKind.ARRAY);
        return super.visitEnhancedForLoop(tree, nothing);
    }

    // ---- rules 1, 4, 8, 11: methods, and what calls what

    @Override
    public Void visitMethod(MethodTree tree, Void nothing) {
        ExecutableElement before = within;
        within = (ExecutableElement) elementOf(tree);
        methods++;
        calls.computeIfAbsent(within, k -> new TreeSet<>((a, b) -> nameOf(a).compareTo(nameOf(b))));
        must("11: at most seven parameters of " + nameOf(within), tree.getParameters().size() <= 7);
        long begin = trees.getSourcePositions().getStartPosition(unit, tree);
        long end = trees.getSourcePositions().getEndPosition(unit, tree);
        long lines = begin < 0 || end < 0 ? 0
            : unit.getLineMap().getLineNumber(end) - unit.getLineMap().getLineNumber(begin) + 1;
        must("11: " + nameOf(within) + " has " + lines + " lines", lines <= MOST_LINES);
        super.visitMethod(tree, nothing);
        within = before;
        return null;
    }

    @Override
    public Void visitMethodInvocation(MethodInvocationTree tree, Void nothing) {
        ExecutableElement called = (ExecutableElement) elementOf(tree.getMethodSelect());
        if (ownTypes.contains(called.getEnclosingElement().toString())) {
            if (within != null) {
                calls.get(within).add(called);
            }
        } else {
            must("4: the library's " + nameOf(called) + where(tree), LIBRARY.contains(nameOf(called)));
        }
        return super.visitMethodInvocation(tree, nothing);
    }

    private boolean reaches(ExecutableElement from, ExecutableElement to, Set<ExecutableElement> seen) {
        for (ExecutableElement called : calls.getOrDefault(from, Set.of())) {
            if (called.equals(to) || seen.add(called) && reaches(called, to, seen)) {
                return true;
            }
        }
        return false;
    }

    private void recursion() {
        List<String> recursive = new ArrayList<>();
        for (ExecutableElement method : calls.keySet()) {
            if (reaches(method, method, new HashSet<>())) {
                recursive.add(method.getSimpleName().toString());
                must("8: " + nameOf(method) + " is private", method.getModifiers().contains(Modifier.PRIVATE));
                must("8: " + nameOf(method) + " carries its depth", method.toString().endsWith("int)")
                    && method.getParameters().get(method.getParameters().size() - 1).getSimpleName().contentEquals("depth"));
            }
        }
        must("8: what calls itself is known: " + recursive,
            new TreeSet<>(recursive).equals(Set.of("readEither", "readBoth", "readOne", "runAbove", "runFrom")));
    }

    /** Each method stands once in a chain, those that call themselves, too: so no way of counting finds a longer one. */
    private List<ExecutableElement> longest(ExecutableElement method, Set<ExecutableElement> open) {
        List<ExecutableElement> best = new ArrayList<>();
        open.add(method);
        for (ExecutableElement called : calls.getOrDefault(method, Set.of())) {
            if (!open.contains(called)) {
                List<ExecutableElement> chain = longest(called, open);
                best = chain.size() > best.size() ? chain : best;
            }
        }
        open.remove(method);
        best.add(0, method);
        return best;
    }

    private void chains() {
        for (ExecutableElement method : calls.keySet()) {
            List<ExecutableElement> chain = longest(method, new HashSet<>());
            must("11: at most eight deep: " + chain, chain.size() <= MOST_DEEP);
        }
    }

    public static void main(String[] args) throws IOException {
        JavaCompiler compiler = ToolProvider.getSystemJavaCompiler();
        try (StandardJavaFileManager files = compiler.getStandardFileManager(null, null, null)) {
            JavacTask task = (JavacTask) compiler.getTask(null, files, null, List.of("-proc:none"), null,
                files.getJavaFileObjects(SOURCE));
            CompilationUnitTree unit = task.parse().iterator().next();
            task.analyze();
            TreesTest test = new TreesTest(Trees.instance(task), unit);
            unit.getTypeDecls().forEach(type -> ((ClassTree) type).getMembers().forEach(member -> {
                if (member instanceof ClassTree) {
                    test.ownTypes.add(test.elementOf(member).toString());
                }
            }));
            test.scan(new TreePath(unit), null);
            test.recursion();
            test.chains();
            must("11: at most twelve classes", test.classes > 1 && test.classes <= MOST_CLASSES);
            must("all methods were looked at", test.methods > 100);
        }
        System.out.println(wrong == 0 ? "trees: all rules that were looked at are kept" : wrong + " are not kept");
        if (wrong != 0) {
            System.exit(1);
        }
    }
}
