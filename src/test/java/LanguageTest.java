import com.sun.source.tree.*;
import com.sun.source.util.JavacTask;
import com.sun.source.util.TreePathScanner;
import com.sun.source.util.Trees;
import java.io.IOException;
import java.nio.file.Path;
import java.util.ArrayDeque;
import java.util.Deque;
import java.util.HashMap;
import java.util.LinkedHashSet;
import java.util.List;
import java.util.Map;
import java.util.Set;
import java.util.TreeSet;
import javax.lang.model.element.Element;
import javax.lang.model.element.ElementKind;
import javax.lang.model.element.ExecutableElement;
import javax.lang.model.element.Modifier;
import javax.lang.model.element.TypeElement;
import javax.lang.model.element.VariableElement;
import javax.lang.model.type.ArrayType;
import javax.lang.model.type.TypeKind;
import javax.lang.model.type.TypeMirror;
import javax.tools.JavaCompiler;
import javax.tools.StandardJavaFileManager;
import javax.tools.ToolProvider;

/** What of LANGUAGE.md the compiler's tree of the source shows; each fault tells the rule and line. */
public final class LanguageTest extends TreePathScanner<Void, Void> {
    private static final Path SOURCE = Path.of("src/main/java/PamphletQuarrel.java");
    private static final int DEEPEST = 8;

    // Rule 4; what the program does not use of it is not named here.
    private static final Set<String> LIBRARY = Set.of("java.lang.Math.min", "java.lang.Math.max",
            "java.lang.System.arraycopy", "java.lang.Object.<init>");
    private static final Set<String> THROWN = Set.of("IllegalStateException",
            "IllegalArgumentException", "IndexOutOfBoundsException");
    // The rules leave these out, or bind them and the program does without.
    private static final Set<Tree.Kind> LEFT_OUT = Set.of(Tree.Kind.LAMBDA_EXPRESSION,
            Tree.Kind.MEMBER_REFERENCE, Tree.Kind.ASSERT, Tree.Kind.SYNCHRONIZED, Tree.Kind.TRY,
            Tree.Kind.SWITCH_EXPRESSION, Tree.Kind.INSTANCE_OF, Tree.Kind.IMPORT,
            Tree.Kind.PACKAGE, Tree.Kind.ANNOTATION, Tree.Kind.PARAMETERIZED_TYPE,
            Tree.Kind.INTERFACE, Tree.Kind.ENUM, Tree.Kind.RECORD);

    private final Trees trees;
    private final CompilationUnitTree unit;
    private final Map<ExecutableElement, Set<ExecutableElement>> calls = new HashMap<>();
    private final Map<ExecutableElement, Integer> depths = new HashMap<>();
    private final Deque<ExecutableElement> callers = new ArrayDeque<>();
    private String method = "";
    private int looked = 0;

    private LanguageTest(Trees trees, CompilationUnitTree unit) {
        this.trees = trees;
        this.unit = unit;
    }

    public static void main(String[] args) throws IOException {
        JavaCompiler compiler = ToolProvider.getSystemJavaCompiler();
        try (StandardJavaFileManager files = compiler.getStandardFileManager(null, null, null)) {
            JavacTask task = (JavacTask) compiler.getTask(null, files, null,
                    List.of("--release", "17", "-proc:none"), null,
                    files.getJavaFileObjects(SOURCE));
            CompilationUnitTree unit = task.parse().iterator().next();
            task.analyze();
            LanguageTest test = new LanguageTest(Trees.instance(task), unit);
            Check.same("classes that are no others' parts", 1, unit.getTypeDecls().size());
            test.scan(unit, null);
            Check.same("trees that were looked at", true, test.looked > 3000);
            test.theDepths();
        }
        Check.end();
    }

    private void need(int rule, boolean isKept, String what, Tree tree) {
        need("rule " + rule, isKept, what, tree);
    }

    private void need(String rules, boolean isKept, String what, Tree tree) {
        if (!isKept) {
            long place = trees.getSourcePositions().getStartPosition(unit, tree);
            long line = unit.getLineMap().getLineNumber(place);
            Check.same(rules + ", line " + line + ": " + what, "nothing of the kind", "" + tree);
        }
    }

    private Element elementOf(Tree tree) {
        return trees.getElement(trees.getPath(unit, tree));
    }

    private TypeMirror typeOf(Tree tree) {
        return trees.getTypeMirror(trees.getPath(unit, tree));
    }

    @Override
    public Void scan(Tree tree, Void none) {
        if (tree != null) {
            looked++;
            need("rules 2 to 10", !LEFT_OUT.contains(tree.getKind()), "a " + tree.getKind(), tree);
        }
        return super.scan(tree, none);
    }

    // ---- classes, methods, variables

    @Override
    public Void visitClass(ClassTree tree, Void none) {
        TypeElement element = (TypeElement) elementOf(tree);
        boolean isFace = element.getEnclosingElement().getKind() == ElementKind.PACKAGE;
        Set<Modifier> due = isFace ? Set.of(Modifier.PUBLIC, Modifier.FINAL)
                : Set.of(Modifier.PRIVATE, Modifier.STATIC, Modifier.FINAL);
        // The rule would let the classes inside be package-visible and not final as well.
        need(1, element.getModifiers().equals(due), "modifiers of a class", tree);
        need(3, tree.getExtendsClause() == null, "a class above", tree);
        for (Tree member : tree.getMembers()) {
            need(5, member.getKind() != Tree.Kind.BLOCK, "an initialiser block", member);
        }
        ExecutableElement constructor = element.getEnclosedElements().stream()
                .filter(e -> e.getKind() == ElementKind.CONSTRUCTOR)
                .map(e -> (ExecutableElement) e).findFirst().orElseThrow();
        callers.push(constructor);
        calls.computeIfAbsent(constructor, c -> new LinkedHashSet<>());
        super.visitClass(tree, none);
        callers.pop();
        return null;
    }

    @Override
    public Void visitMethod(MethodTree tree, Void none) {
        ExecutableElement element = (ExecutableElement) elementOf(tree);
        need(11, tree.getParameters().size() <= 7, "more than seven parameters", tree);
        need(6, !Set.of("equals", "hashCode", "toString").contains(tree.getName().toString()),
                "a method that all objects have", tree);
        calls.computeIfAbsent(element, c -> new LinkedHashSet<>());
        callers.push(element);
        method = tree.toString();
        super.visitMethod(tree, none);
        callers.pop();
        return null;
    }

    @Override
    public Void visitVariable(VariableTree tree, Void none) {
        VariableElement element = (VariableElement) elementOf(tree);
        need(3, isAllowed(element.asType()), "a type", tree);
        if (element.getModifiers().contains(Modifier.STATIC)) {
            need(5, element.getModifiers().contains(Modifier.FINAL)
                    && element.getConstantValue() != null, "a static field", tree);
        }
        return super.visitVariable(tree, none);
    }

    private static boolean isAllowed(TypeMirror type) {
        if (type.getKind() == TypeKind.ARRAY) {
            TypeMirror part = ((ArrayType) type).getComponentType();
            return part.getKind() != TypeKind.ARRAY && isAllowed(part);
        }
        return type.getKind().isPrimitive() || type.toString().startsWith("PamphletQuarrel");
    }

    // ---- what is called, made and thrown

    @Override
    public Void visitMethodInvocation(MethodInvocationTree tree, Void none) {
        calls((ExecutableElement) elementOf(tree), tree);
        return super.visitMethodInvocation(tree, none);
    }

    @Override
    public Void visitNewClass(NewClassTree tree, Void none) {
        need(2, tree.getClassBody() == null, "a class without a name", tree);
        boolean isThrown = getCurrentPath().getParentPath().getLeaf().getKind() == Tree.Kind.THROW;
        if (!isThrown) {
            need(4, isAllowed(typeOf(tree)), "of the library", tree);
            calls((ExecutableElement) elementOf(tree), tree);
        }
        return super.visitNewClass(tree, none);
    }

    private void calls(ExecutableElement called, Tree tree) {
        String owner = called.getEnclosingElement().toString();
        if (owner.startsWith("PamphletQuarrel")) {
            calls.get(callers.peek()).add(called);
        } else {
            String name = owner + "." + called.getSimpleName();
            need(4, LIBRARY.contains(name), "of the library", tree);
        }
    }

    @Override
    public Void visitThrow(ThrowTree tree, Void none) {
        need(6, callers.peek().getKind() == ElementKind.METHOD, "in a constructor", tree);
        ExpressionTree thrown = tree.getExpression();
        need(6, thrown.getKind() == Tree.Kind.NEW_CLASS, "no new exception", tree);
        if (thrown instanceof NewClassTree made) {
            need(6, THROWN.contains(made.getIdentifier().toString()), "an exception", tree);
            need(6, made.getArguments().size() <= 1 && made.getArguments().stream()
                    .allMatch(a -> a.getKind() == Tree.Kind.STRING_LITERAL), "its text", tree);
        }
        return super.visitThrow(tree, none);
    }

    // ---- arithmetic and loops

    @Override
    public Void visitBinary(BinaryTree tree, Void none) {
        need(10, isAllowed(typeOf(tree)), "joined texts", tree);
        boolean divides = Set.of(Tree.Kind.DIVIDE, Tree.Kind.REMAINDER).contains(tree.getKind());
        if (divides && typeOf(tree).getKind() != TypeKind.DOUBLE) {
            need(7, isConstant(tree.getRightOperand()), "a divisor", tree);
        }
        return super.visitBinary(tree, none);
    }

    private boolean isConstant(Tree number) {
        Element element = elementOf(number);
        return element instanceof VariableElement variable
                && variable.getConstantValue() instanceof Integer value && value > 0;
    }

    @Override
    public Void visitCompoundAssignment(CompoundAssignmentTree tree, Void none) {
        need(7, tree.getKind() != Tree.Kind.DIVIDE_ASSIGNMENT
                && tree.getKind() != Tree.Kind.REMAINDER_ASSIGNMENT, "a divisor", tree);
        return super.visitCompoundAssignment(tree, none);
    }

    @Override
    public Void visitTypeCast(TypeCastTree tree, Void none) {
        need(6, typeOf(tree.getType()).getKind().isPrimitive(), "a cast", tree);
        return super.visitTypeCast(tree, none);
    }

    // Whether the method has compared the index with both ends at all; where, a reader must see.
    @Override
    public Void visitArrayAccess(ArrayAccessTree tree, Void none) {
        String index = tree.getIndex().toString();
        String length = tree.getExpression() + ".length";
        need(7, method.contains(index + " < " + length) || method.contains(index + " >= " + length),
                "an index not compared with the length", tree);
        need(7, method.contains(index + " >= 0") || method.contains(index + " < 0")
                || method.contains("int " + index + " = 0"), "an index not compared with 0", tree);
        return super.visitArrayAccess(tree, none);
    }

    @Override
    public Void visitNewArray(NewArrayTree tree, Void none) {
        for (ExpressionTree length : tree.getDimensions()) {
            need(7, isConstant(length) || length.toString().matches("Math\\.max\\(\\w+, 0\\)"),
                    "a length", tree);
        }
        return super.visitNewArray(tree, none);
    }

    @Override
    public Void visitForLoop(ForLoopTree tree, Void none) {
        need(9, tree.getCondition() != null && tree.getUpdate().size() == 1, "a loop", tree);
        return super.visitForLoop(tree, none);
    }

    @Override
    public Void visitWhileLoop(WhileLoopTree tree, Void none) {
        ExpressionTree condition = ((ParenthesizedTree) tree.getCondition()).getExpression();
        need(9, condition.getKind() != Tree.Kind.BOOLEAN_LITERAL, "a loop", tree);
        return super.visitWhileLoop(tree, none);
    }

    // ---- how deep calls go

    private void theDepths() {
        Set<String> deep = new TreeSet<>();
        for (ExecutableElement method : calls.keySet()) {
            int depth = depthOf(method, 0);
            if (depth > DEEPEST) {
                deep.add(method.getEnclosingElement() + "." + method + " " + depth);
            }
        }
        Check.same("rule 11: calls that go deeper than " + DEEPEST, Set.of(), deep);
        Check.same("methods whose calls were looked at", true, depths.size() > 100);
    }

    // A recursion would be deeper than there are methods.
    private int depthOf(ExecutableElement method, int open) {
        Integer known = depths.get(method);
        if (known != null || open > calls.size()) {
            return known == null ? open : known;
        }
        int deepest = 0;
        for (ExecutableElement called : calls.getOrDefault(method, Set.of())) {
            deepest = Math.max(deepest, depthOf(called, open + 1));
        }
        depths.put(method, deepest + 1);
        return deepest + 1;
    }
}
