import com.sun.source.tree.AssertTree;
import com.sun.source.tree.BinaryTree;
import com.sun.source.tree.CatchTree;
import com.sun.source.tree.ClassTree;
import com.sun.source.tree.CompilationUnitTree;
import com.sun.source.tree.CompoundAssignmentTree;
import com.sun.source.tree.ExpressionTree;
import com.sun.source.tree.ForLoopTree;
import com.sun.source.tree.ImportTree;
import com.sun.source.tree.LambdaExpressionTree;
import com.sun.source.tree.LiteralTree;
import com.sun.source.tree.MemberReferenceTree;
import com.sun.source.tree.MemberSelectTree;
import com.sun.source.tree.MethodInvocationTree;
import com.sun.source.tree.MethodTree;
import com.sun.source.tree.NewClassTree;
import com.sun.source.tree.SynchronizedTree;
import com.sun.source.tree.ThrowTree;
import com.sun.source.tree.Tree;
import com.sun.source.tree.TryTree;
import com.sun.source.tree.VariableTree;
import com.sun.source.tree.WhileLoopTree;
import com.sun.source.util.JavacTask;
import com.sun.source.util.SourcePositions;
import com.sun.source.util.TreePath;
import com.sun.source.util.TreePathScanner;
import com.sun.source.util.Trees;
import java.io.IOException;
import java.nio.file.Path;
import java.util.ArrayList;
import java.util.LinkedHashMap;
import java.util.LinkedHashSet;
import java.util.List;
import java.util.Map;
import java.util.Set;
import javax.lang.model.element.Element;
import javax.lang.model.element.ElementKind;
import javax.lang.model.element.ExecutableElement;
import javax.lang.model.element.Modifier;
import javax.lang.model.element.TypeElement;
import javax.lang.model.element.VariableElement;
import javax.lang.model.type.ArrayType;
import javax.lang.model.type.DeclaredType;
import javax.lang.model.type.TypeKind;
import javax.lang.model.type.TypeMirror;
import javax.tools.JavaCompiler;
import javax.tools.StandardJavaFileManager;
import javax.tools.ToolProvider;

/** Holds the source to the rules of LANGUAGE.md that can be seen in its tree, by the rule's number. */
public final class RulesTest extends TreePathScanner<Void, Void> {
    private static final int DEEPEST_CALLS = 8;
    private static final int MOST_PARAMETERS = 7;
    private static final int SOME_SIXTY_LINES = 65;
    private static final int SOME_TWELVE_CLASSES = 13;
    private static final int SOME_TWENTY_FIELDS = 22;

    private static final Set<String> IMPORTED = Set.of("java.util.ArrayList", "java.util.List",
        "java.util.Arrays", "java.util.Iterator", "java.util.NoSuchElementException");
    private static final Set<String> EXCEPTIONS = Set.of("IllegalStateException", "IllegalArgumentException",
        "IndexOutOfBoundsException", "ArithmeticException", "UnsupportedOperationException",
        "NoSuchElementException", "RuntimeException");
    private static final Map<String, Set<String>> LIBRARY = Map.of(
        "java.lang.Object", Set.of("<init>", "clone"),
        "java.lang.Enum", Set.of("<init>"),
        "java.lang.Record", Set.of("<init>"),
        "java.lang.String", Set.of("<init>", "length", "charAt", "isEmpty", "equals", "indexOf", "substring",
            "toCharArray"),
        "java.lang.StringBuilder", Set.of("<init>", "append", "charAt", "setCharAt", "setLength", "deleteCharAt",
            "reverse", "length", "toString"),
        "java.util.ArrayList", Set.of("<init>", "add", "get", "set", "remove", "size", "isEmpty", "clear"),
        "java.util.List", Set.of("of", "add", "get", "set", "remove", "size", "isEmpty", "clear"),
        "java.util.Arrays", Set.of("copyOf", "copyOfRange", "fill"),
        "java.lang.System", Set.of("arraycopy"));
    /** Their static functions over int and long may be called, but for those that throw. */
    private static final Set<String> NUMBERS = Set.of("java.lang.Integer", "java.lang.Long", "java.lang.Math");

    private final Checks checks = new Checks();
    private final Trees trees;
    private final CompilationUnitTree unit;
    private final Map<Element, Set<Element>> callsOf = new LinkedHashMap<>();
    private Element caller;
    private int classes;

    private RulesTest(JavacTask task, CompilationUnitTree unit) {
        this.trees = Trees.instance(task);
        this.unit = unit;
    }

    /** The program, as a path. */
    public static void main(String[] args) throws IOException {
        JavaCompiler compiler = ToolProvider.getSystemJavaCompiler();
        try (StandardJavaFileManager files = compiler.getStandardFileManager(null, null, null)) {
            JavacTask task = (JavacTask) compiler.getTask(null, files, null, List.of("-proc:none"), null,
                files.getJavaFileObjects(Path.of(args[0])));
            CompilationUnitTree unit = task.parse().iterator().next();
            task.analyze();
            RulesTest test = new RulesTest(task, unit);
            test.scan(unit, null);
            test.whole();
            test.checks.end("RulesTest");
        }
    }

    private void whole() {
        holds("rule 1: no package line", unit.getPackageName() == null);
        holds("rule 11: " + classes + " classes", classes <= SOME_TWELVE_CLASSES);
        for (Element method : callsOf.keySet()) {
            List<Element> chain = deepest(method, new ArrayList<>());
            holds("rule 11: " + chain + " goes " + chain.size() + " deep", chain.size() <= DEEPEST_CALLS);
        }
    }

    private void holds(String what, boolean rule) {
        checks.same(what, "" + rule, "true");
    }

    private String place(Tree tree) {
        long start = trees.getSourcePositions().getStartPosition(unit, tree);
        return "line " + unit.getLineMap().getLineNumber(start) + ": ";
    }

    /** The program has no recursion, so a method that comes back is a fault, and the chain ends there. */
    private List<Element> deepest(Element method, List<Element> open) {
        holds("rule 8: " + method + " calls itself", !open.contains(method));
        List<Element> best = new ArrayList<>();
        if (!open.contains(method)) {
            open.add(method);
            for (Element called : callsOf.getOrDefault(method, Set.of())) {
                List<Element> chain = deepest(called, open);
                best = chain.size() > best.size() ? chain : best;
            }
            open.remove(method);
        }
        best.add(0, method);
        return best;
    }

    @Override
    public Void visitImport(ImportTree node, Void none) {
        holds(place(node) + "rule 4: " + node, IMPORTED.contains(node.getQualifiedIdentifier().toString()));
        return super.visitImport(node, none);
    }

    @Override
    public Void visitClass(ClassTree node, Void none) {
        classes++;
        int fields = 0;
        for (Tree member : node.getMembers()) {
            boolean isBlock = member.getKind() == Tree.Kind.BLOCK;
            holds(place(member) + "rule 5: no initialiser block", !isBlock);
            if (member instanceof VariableTree field) {
                fields += field.getModifiers().getFlags().contains(Modifier.STATIC) ? 0 : 1;
            }
        }
        holds(place(node) + "rule 11: " + fields + " fields", fields <= SOME_TWENTY_FIELDS);
        return super.visitClass(node, none);
    }

    @Override
    public Void visitMethod(MethodTree node, Void none) {
        caller = trees.getElement(getCurrentPath());
        callsOf.put(caller, new LinkedHashSet<>());
        int parameters = node.getParameters().size();
        holds(place(node) + "rule 11: " + parameters + " parameters", parameters <= MOST_PARAMETERS);
        SourcePositions positions = trees.getSourcePositions();
        long first = unit.getLineMap().getLineNumber(Math.max(0, positions.getStartPosition(unit, node)));
        long last = unit.getLineMap().getLineNumber(Math.max(0, positions.getEndPosition(unit, node)));
        holds(place(node) + "rule 11: " + (last - first) + " lines", last - first <= SOME_SIXTY_LINES);
        String name = node.getName().toString();
        boolean ofAllObjects = Set.of("equals", "hashCode", "toString").contains(name);
        holds(place(node) + "rule 6: no " + name, !ofAllObjects);
        super.visitMethod(node, none);
        caller = null;
        return null;
    }

    @Override
    public Void visitVariable(VariableTree node, Void none) {
        Element element = trees.getElement(getCurrentPath());
        if (element != null && element.getModifiers().contains(Modifier.STATIC)) {
            TypeMirror type = element.asType();
            boolean isConstant = ((VariableElement) element).getConstantValue() != null;
            boolean fits = isConstant && isOne(type, "int", "long", "boolean", "char", "java.lang.String")
                || isOne(type, "int[]", "long[]", "char[]", "byte[]") || isOfEnum(type);
            holds(place(node) + "rule 5: final", element.getModifiers().contains(Modifier.FINAL));
            holds(place(node) + "rule 5: a constant: " + node, fits);
        }
        return super.visitVariable(node, none);
    }

    private static boolean isOne(TypeMirror type, String... names) {
        return type != null && Set.of(names).contains(type.toString());
    }

    private static boolean isOfEnum(TypeMirror type) {
        TypeMirror one = type instanceof ArrayType row ? row.getComponentType() : type;
        return one instanceof DeclaredType declared && declared.asElement().getKind() == ElementKind.ENUM;
    }

    @Override
    public Void visitMethodInvocation(MethodInvocationTree node, Void none) {
        called(node, trees.getElement(getCurrentPath()));
        return super.visitMethodInvocation(node, none);
    }

    @Override
    public Void visitNewClass(NewClassTree node, Void none) {
        called(node, trees.getElement(getCurrentPath()));
        return super.visitNewClass(node, none);
    }

    private void called(Tree node, Element method) {
        TypeElement type = (TypeElement) method.getEnclosingElement();
        if (trees.getTree(type) != null) {
            if (caller != null) {
                callsOf.get(caller).add(method);
            }
            return;
        }
        String owner = type.getQualifiedName().toString();
        String name = method.getSimpleName().toString();
        boolean isListed = LIBRARY.getOrDefault(owner, Set.of()).contains(name);
        boolean isThrown = EXCEPTIONS.contains(owner.substring(owner.lastIndexOf('.') + 1)) && name.equals("<init>");
        holds(place(node) + "rule 4: " + owner + "." + name,
            isListed || isThrown || isOfNumbers(owner, (ExecutableElement) method));
    }

    private static boolean isOfNumbers(String owner, ExecutableElement method) {
        boolean whole = method.getReturnType().getKind() != TypeKind.DOUBLE
            && method.getReturnType().getKind() != TypeKind.FLOAT;
        for (VariableElement parameter : method.getParameters()) {
            whole &= parameter.asType().getKind() == TypeKind.INT || parameter.asType().getKind() == TypeKind.LONG;
        }
        boolean isStatic = method.getModifiers().contains(Modifier.STATIC);
        return NUMBERS.contains(owner) && whole && isStatic && !method.getSimpleName().toString().endsWith("Exact");
    }

    @Override
    public Void visitThrow(ThrowTree node, Void none) {
        boolean isNew = node.getExpression() instanceof NewClassTree;
        holds(place(node) + "rule 6: " + node, isNew && isPlain((NewClassTree) node.getExpression()));
        boolean inMethod = caller != null && !caller.getSimpleName().contentEquals("<init>");
        holds(place(node) + "rule 6: no throw in a constructor", inMethod);
        return super.visitThrow(node, none);
    }

    private static boolean isPlain(NewClassTree made) {
        boolean isWritten = true;
        for (ExpressionTree text : made.getArguments()) {
            isWritten &= text instanceof LiteralTree;
        }
        return isWritten && EXCEPTIONS.contains(made.getIdentifier().toString());
    }

    @Override
    public Void visitTry(TryTree node, Void none) {
        holds(place(node) + "rule 6: no finally", node.getFinallyBlock() == null);
        holds(place(node) + "rule 6: no resources", node.getResources().isEmpty());
        return super.visitTry(node, none);
    }

    @Override
    public Void visitCatch(CatchTree node, Void none) {
        for (String caught : node.getParameter().getType().toString().split(" \\| ")) {
            holds(place(node) + "rule 6: catches " + caught, EXCEPTIONS.contains(caught));
        }
        return super.visitCatch(node, none);
    }

    @Override
    public Void visitBinary(BinaryTree node, Void none) {
        noTexts(node, node.getLeftOperand(), node.getRightOperand());
        return super.visitBinary(node, none);
    }

    @Override
    public Void visitCompoundAssignment(CompoundAssignmentTree node, Void none) {
        noTexts(node, node.getVariable(), node.getExpression());
        return super.visitCompoundAssignment(node, none);
    }

    /** Neither joined by a sign nor compared as objects. */
    private void noTexts(Tree node, ExpressionTree... sides) {
        for (ExpressionTree side : sides) {
            TypeMirror type = trees.getTypeMirror(new TreePath(getCurrentPath(), side));
            holds(place(node) + "rules 6, 10: " + node, !isOne(type, "java.lang.String", "java.lang.Integer"));
        }
    }

    @Override
    public Void visitMemberSelect(MemberSelectTree node, Void none) {
        Element element = trees.getElement(getCurrentPath());
        boolean isField = element != null && element.getKind() == ElementKind.FIELD;
        if (isField && element.getEnclosingElement() instanceof TypeElement type && trees.getTree(type) == null) {
            String owner = type.getQualifiedName().toString();
            holds(place(node) + "rule 4: " + node, owner.equals("Array") || NUMBERS.contains(owner));
        }
        return super.visitMemberSelect(node, none);
    }

    @Override
    public Void visitWhileLoop(WhileLoopTree node, Void none) {
        holds(place(node) + "rule 9: " + node.getCondition(), !node.getCondition().toString().equals("(true)"));
        return super.visitWhileLoop(node, none);
    }

    @Override
    public Void visitForLoop(ForLoopTree node, Void none) {
        holds(place(node) + "rule 9: a loop with an end", node.getCondition() != null);
        return super.visitForLoop(node, none);
    }

    @Override
    public Void visitLambdaExpression(LambdaExpressionTree node, Void none) {
        holds(place(node) + "rule 2: no lambda", false);
        return super.visitLambdaExpression(node, none);
    }

    @Override
    public Void visitMemberReference(MemberReferenceTree node, Void none) {
        holds(place(node) + "rule 2: no method reference", false);
        return super.visitMemberReference(node, none);
    }

    @Override
    public Void visitSynchronized(SynchronizedTree node, Void none) {
        holds(place(node) + "rule 6: no synchronized", false);
        return super.visitSynchronized(node, none);
    }

    @Override
    public Void visitAssert(AssertTree node, Void none) {
        holds(place(node) + "rule 6: no assert", false);
        return super.visitAssert(node, none);
    }
}
