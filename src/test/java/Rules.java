import com.sun.source.tree.ArrayAccessTree;
import com.sun.source.tree.AssertTree;
import com.sun.source.tree.AssignmentTree;
import com.sun.source.tree.BinaryTree;
import com.sun.source.tree.BlockTree;
import com.sun.source.tree.ClassTree;
import com.sun.source.tree.CompilationUnitTree;
import com.sun.source.tree.CompoundAssignmentTree;
import com.sun.source.tree.DoWhileLoopTree;
import com.sun.source.tree.ExpressionTree;
import com.sun.source.tree.ForLoopTree;
import com.sun.source.tree.IdentifierTree;
import com.sun.source.tree.ImportTree;
import com.sun.source.tree.InstanceOfTree;
import com.sun.source.tree.LambdaExpressionTree;
import com.sun.source.tree.LiteralTree;
import com.sun.source.tree.MemberReferenceTree;
import com.sun.source.tree.MethodInvocationTree;
import com.sun.source.tree.MethodTree;
import com.sun.source.tree.NewArrayTree;
import com.sun.source.tree.NewClassTree;
import com.sun.source.tree.SwitchExpressionTree;
import com.sun.source.tree.SynchronizedTree;
import com.sun.source.tree.ThrowTree;
import com.sun.source.tree.Tree;
import com.sun.source.tree.TryTree;
import com.sun.source.tree.TypeCastTree;
import com.sun.source.tree.UnaryTree;
import com.sun.source.tree.VariableTree;
import com.sun.source.tree.WhileLoopTree;
import com.sun.source.util.JavacTask;
import com.sun.source.util.TreePath;
import com.sun.source.util.TreePathScanner;
import com.sun.source.util.Trees;
import java.io.IOException;
import java.net.URI;
import java.util.ArrayList;
import java.util.HashSet;
import java.util.LinkedHashMap;
import java.util.LinkedHashSet;
import java.util.List;
import java.util.Map;
import java.util.Set;
import javax.lang.model.element.Element;
import javax.lang.model.element.ElementKind;
import javax.lang.model.element.Modifier;
import javax.lang.model.element.TypeElement;
import javax.lang.model.type.ArrayType;
import javax.lang.model.type.TypeKind;
import javax.lang.model.type.TypeMirror;
import javax.tools.JavaFileObject;
import javax.tools.SimpleJavaFileObject;
import javax.tools.ToolProvider;

/**
 * Reads a source as the compiler does, and tells which rules of LANGUAGE.md it breaks. It is narrower than
 * the rules where the class does without what they allow: no list, no enum, no fraction, no recursion,
 * and nothing made outside constructors and the first values of fields.
 */
final class Rules extends TreePathScanner<Void, Void> {
    private static final Set<String> LIBRARY = Set.of("java.lang.Math", "java.lang.Integer", "java.lang.Long");
    private static final Set<TypeKind> NUMBERS = Set.of(TypeKind.INT, TypeKind.LONG, TypeKind.SHORT, TypeKind.BYTE,
            TypeKind.CHAR);
    private static final int MOST_DEEP = 8, MOST_LINES = 60, MOST_PARAMETERS = 7, MOST_CLASSES = 12, MOST_FIELDS = 20;

    private final List<String> broken = new ArrayList<>();
    private final Trees trees;
    private final CompilationUnitTree unit;
    /** Whom each method calls, the library's methods too. */
    private final Map<String, Set<String>> calls = new LinkedHashMap<>();
    private String within = "";
    private boolean inConstructor = false;
    private int classes = 0;
    private int methods = 0;

    private Rules(Trees trees, CompilationUnitTree unit) {
        this.trees = trees;
        this.unit = unit;
    }

    /** The rules that the source breaks, each as "rule 6: throw, line 12". */
    static List<String> brokenBy(String source) throws IOException {
        JavaFileObject file = new SimpleJavaFileObject(URI.create("string:///TimeFlood.java"), JavaFileObject.Kind.SOURCE) {
            @Override
            public CharSequence getCharContent(boolean ignoreErrors) {
                return source;
            }
        };
        JavacTask task = (JavacTask) ToolProvider.getSystemJavaCompiler().getTask(null, null,
                d -> System.out.println(d), List.of("-proc:none"), null, List.of(file));
        CompilationUnitTree unit = task.parse().iterator().next();
        task.analyze();
        Rules rules = new Rules(Trees.instance(task), unit);
        rules.scan(unit, null);
        rules.wholeFile();
        return rules.broken;
    }

    /** How many methods the longest chain of calls has, the library's included. */
    private int depth(String method, Set<String> open) {
        if (!open.add(method)) {
            broken.add("rule 8: recursion of " + method);
            return 0;
        }
        int most = 0;
        for (String called : calls.getOrDefault(method, Set.of())) {
            most = Math.max(most, depth(called, open));
        }
        open.remove(method);
        return most + 1;
    }

    private void wholeFile() {
        if (classes > MOST_CLASSES) {
            broken.add("rule 11: " + classes + " classes");
        }
        if (methods == 0) {
            broken.add("no method was found");
        }
        for (String method : List.copyOf(calls.keySet())) {
            int depth = depth(method, new HashSet<>());
            if (depth > MOST_DEEP) {
                broken.add("rule 11: calls " + depth + " deep from " + method);
            }
        }
    }

    private void breaks(int rule, String what, Tree where) {
        long at = trees.getSourcePositions().getStartPosition(unit, where);
        broken.add("rule " + rule + ": " + what + ", line " + unit.getLineMap().getLineNumber(Math.max(0, at)));
    }

    private Element element() {
        return trees.getElement(getCurrentPath());
    }

    private TypeMirror typeOf(Tree tree) {
        return trees.getTypeMirror(new TreePath(getCurrentPath(), tree));
    }

    private static boolean isOwn(Element element) {
        Element at = element;
        while (at != null && at.getEnclosingElement() != null
                && at.getEnclosingElement().getKind() != ElementKind.PACKAGE) {
            at = at.getEnclosingElement();
        }
        return at != null && at.getSimpleName().contentEquals("TimeFlood");
    }

    private static boolean isString(TypeMirror type) {
        return type != null && type.toString().equals("java.lang.String");
    }

    private static boolean mayBeUsed(TypeMirror type) {
        if (type.getKind() == TypeKind.ARRAY) {
            TypeMirror part = ((ArrayType) type).getComponentType();
            boolean numbers = part.getKind() == TypeKind.ARRAY
                    && NUMBERS.contains(((ArrayType) part).getComponentType().getKind());
            return numbers || part.getKind() != TypeKind.ARRAY && mayBeUsed(part);
        }
        boolean plain = NUMBERS.contains(type.getKind()) || type.getKind() == TypeKind.BOOLEAN
                || type.getKind() == TypeKind.VOID;
        return plain || isString(type) || type.getKind() == TypeKind.DECLARED && type.toString().startsWith("TimeFlood");
    }

    // ---- declarations: rules 2, 3, 5, 11

    @Override
    public Void visitImport(ImportTree tree, Void v) {
        breaks(4, "import", tree);
        return super.visitImport(tree, v);
    }

    @Override
    public Void visitClass(ClassTree tree, Void v) {
        classes++;
        Tree around = getCurrentPath().getParentPath().getLeaf();
        boolean top = around.getKind() == Tree.Kind.COMPILATION_UNIT;
        if (!top && (around.getKind() != Tree.Kind.CLASS || !tree.getModifiers().getFlags().contains(Modifier.STATIC))) {
            breaks(2, "a class that is not static, or is inside a method", tree);
        }
        long fields = tree.getMembers().stream().filter(m -> m instanceof VariableTree
                && !((VariableTree) m).getModifiers().getFlags().contains(Modifier.STATIC)).count();
        if (fields > MOST_FIELDS) {
            breaks(11, fields + " fields", tree);
        }
        return super.visitClass(tree, v);
    }

    @Override
    public Void visitMethod(MethodTree tree, Void v) {
        methods++;
        Element method = element();
        within = method.getEnclosingElement() + "." + method;
        inConstructor = method.getKind() == ElementKind.CONSTRUCTOR;
        calls.putIfAbsent(within, new LinkedHashSet<>());
        long from = unit.getLineMap().getLineNumber(Math.max(0, trees.getSourcePositions().getStartPosition(unit, tree)));
        long to = unit.getLineMap().getLineNumber(Math.max(0, trees.getSourcePositions().getEndPosition(unit, tree)));
        if (to - from + 1 > MOST_LINES) {
            breaks(11, to - from + 1 + " lines", tree);
        }
        if (tree.getParameters().size() > MOST_PARAMETERS) {
            breaks(11, tree.getParameters().size() + " parameters", tree);
        }
        if (!tree.getThrows().isEmpty()) {
            breaks(6, "throws", tree);
        }
        if (tree.getReturnType() != null && !mayBeUsed(typeOf(tree.getReturnType()))) {
            breaks(3, "type " + tree.getReturnType(), tree);
        }
        super.visitMethod(tree, v);
        within = "";
        inConstructor = false;
        return null;
    }

    @Override
    public Void visitVariable(VariableTree tree, Void v) {
        Element variable = element();
        if (!mayBeUsed(variable.asType())) {
            breaks(3, "type " + variable.asType(), tree);
        }
        if (variable.getModifiers().contains(Modifier.STATIC)) {
            staticField(tree, variable);
        }
        return super.visitVariable(tree, v);
    }

    private void staticField(VariableTree tree, Element field) {
        boolean isArray = field.asType().getKind() == TypeKind.ARRAY;
        ExpressionTree first = tree.getInitializer();
        boolean written = first instanceof NewArrayTree && ((NewArrayTree) first).getInitializers() != null;
        boolean own = field.asType().getKind() == TypeKind.DECLARED && !isString(field.asType());
        if (!field.getModifiers().contains(Modifier.FINAL) || first == null || own || isArray && !written) {
            breaks(5, "static state", tree);
        }
    }

    @Override
    public Void visitBlock(BlockTree tree, Void v) {
        if (tree.isStatic()) {
            breaks(5, "static block", tree);
        }
        return super.visitBlock(tree, v);
    }

    private void changed(ExpressionTree target, Tree where) {
        if (target instanceof ArrayAccessTree) {
            Tree array = ((ArrayAccessTree) target).getExpression();
            Element field = trees.getElement(new TreePath(new TreePath(getCurrentPath(), target), array));
            if (field != null && field.getModifiers().contains(Modifier.STATIC)) {
                breaks(5, "a changed constant", where);
            }
        }
    }

    @Override
    public Void visitAssignment(AssignmentTree tree, Void v) {
        changed(tree.getVariable(), tree);
        return super.visitAssignment(tree, v);
    }

    @Override
    public Void visitCompoundAssignment(CompoundAssignmentTree tree, Void v) {
        changed(tree.getVariable(), tree);
        if (isString(typeOf(tree.getVariable()))) {
            breaks(10, "joining by +=", tree);
        }
        return super.visitCompoundAssignment(tree, v);
    }

    @Override
    public Void visitUnary(UnaryTree tree, Void v) {
        changed(tree.getExpression(), tree);
        return super.visitUnary(tree, v);
    }

    // ---- calls and what is made: rules 2, 4, 8, 12

    @Override
    public Void visitMethodInvocation(MethodInvocationTree tree, Void v) {
        Element called = element();
        Element owner = called.getEnclosingElement();
        boolean toSuper = called.getKind() == ElementKind.CONSTRUCTOR;
        boolean allowed = isOwn(called) || toSuper || owner.toString().equals("java.lang.System")
                && called.getSimpleName().contentEquals("arraycopy")
                || LIBRARY.contains(owner.toString()) && !called.getSimpleName().toString().endsWith("Exact");
        if (!allowed) {
            breaks(4, owner + "." + called, tree);
        }
        if (inConstructor && !toSuper) {
            breaks(12, "a call in a constructor", tree);
        }
        if (!toSuper && !within.isEmpty()) {
            calls.get(within).add(owner + "." + called);
        }
        return super.visitMethodInvocation(tree, v);
    }

    @Override
    public Void visitNewClass(NewClassTree tree, Void v) {
        if (tree.getClassBody() != null) {
            breaks(2, "a class without a name", tree);
        }
        if (!isOwn(((TypeElement) element().getEnclosingElement()))) {
            breaks(4, "new " + tree.getIdentifier(), tree);
        }
        made(tree);
        return super.visitNewClass(tree, v);
    }

    @Override
    public Void visitNewArray(NewArrayTree tree, Void v) {
        made(tree);
        return super.visitNewArray(tree, v);
    }

    private void made(Tree tree) {
        if (!within.isEmpty() && !inConstructor) {
            breaks(12, "something made by a call", tree);
        }
    }

    @Override
    public Void visitIdentifier(IdentifierTree tree, Void v) {
        Tree around = getCurrentPath().getParentPath().getLeaf();
        if (tree.getName().contentEquals("this") && around.getKind() != Tree.Kind.MEMBER_SELECT) {
            breaks(12, "the object itself handed out", tree);
        }
        return super.visitIdentifier(tree, v);
    }

    @Override
    public Void visitLambdaExpression(LambdaExpressionTree tree, Void v) {
        breaks(2, "lambda", tree);
        return super.visitLambdaExpression(tree, v);
    }

    @Override
    public Void visitMemberReference(MemberReferenceTree tree, Void v) {
        breaks(2, "method reference", tree);
        return super.visitMemberReference(tree, v);
    }

    // ---- statements and signs: rules 3, 4, 6, 9, 10

    @Override
    public Void visitThrow(ThrowTree tree, Void v) {
        breaks(6, "throw", tree);
        return super.visitThrow(tree, v);
    }

    @Override
    public Void visitTry(TryTree tree, Void v) {
        breaks(6, "try", tree);
        return super.visitTry(tree, v);
    }

    @Override
    public Void visitSynchronized(SynchronizedTree tree, Void v) {
        breaks(6, "synchronized", tree);
        return super.visitSynchronized(tree, v);
    }

    @Override
    public Void visitAssert(AssertTree tree, Void v) {
        breaks(6, "assert", tree);
        return super.visitAssert(tree, v);
    }

    @Override
    public Void visitInstanceOf(InstanceOfTree tree, Void v) {
        breaks(6, "instanceof", tree);
        return super.visitInstanceOf(tree, v);
    }

    @Override
    public Void visitTypeCast(TypeCastTree tree, Void v) {
        if (!NUMBERS.contains(typeOf(tree.getType()).getKind())) {
            breaks(6, "cast to " + tree.getType(), tree);
        }
        return super.visitTypeCast(tree, v);
    }

    @Override
    public Void visitSwitchExpression(SwitchExpressionTree tree, Void v) {
        breaks(10, "switch that is no statement", tree);
        return super.visitSwitchExpression(tree, v);
    }

    @Override
    public Void visitForLoop(ForLoopTree tree, Void v) {
        if (tree.getCondition() == null || tree.getUpdate().isEmpty()) {
            breaks(9, "loop without a counter", tree);
        }
        return super.visitForLoop(tree, v);
    }

    @Override
    public Void visitWhileLoop(WhileLoopTree tree, Void v) {
        breaks(9, "while", tree);
        return super.visitWhileLoop(tree, v);
    }

    @Override
    public Void visitDoWhileLoop(DoWhileLoopTree tree, Void v) {
        breaks(9, "do", tree);
        return super.visitDoWhileLoop(tree, v);
    }

    @Override
    public Void visitBinary(BinaryTree tree, Void v) {
        boolean texts = isString(typeOf(tree.getLeftOperand())) || isString(typeOf(tree.getRightOperand()));
        if (texts) {
            boolean joins = tree.getKind() == Tree.Kind.PLUS;
            breaks(joins ? 10 : 6, joins ? "joining by +" : "comparing texts", tree);
        }
        return super.visitBinary(tree, v);
    }

    @Override
    public Void visitLiteral(LiteralTree tree, Void v) {
        Object value = tree.getValue();
        if (value instanceof Double || value instanceof Float) {
            breaks(3, "fraction", tree);
        }
        if (value instanceof String && !((String) value).chars().allMatch(c -> c >= 1 && c <= 127)) {
            breaks(4, "sign in a text", tree);
        }
        return super.visitLiteral(tree, v);
    }
}
