import com.sun.source.tree.ArrayAccessTree;
import com.sun.source.tree.AssertTree;
import com.sun.source.tree.AssignmentTree;
import com.sun.source.tree.BinaryTree;
import com.sun.source.tree.BlockTree;
import com.sun.source.tree.ClassTree;
import com.sun.source.tree.CompilationUnitTree;
import com.sun.source.tree.CompoundAssignmentTree;
import com.sun.source.tree.DoWhileLoopTree;
import com.sun.source.tree.EnhancedForLoopTree;
import com.sun.source.tree.ExpressionTree;
import com.sun.source.tree.ForLoopTree;
import com.sun.source.tree.LambdaExpressionTree;
import com.sun.source.tree.LiteralTree;
import com.sun.source.tree.MemberReferenceTree;
import com.sun.source.tree.MethodInvocationTree;
import com.sun.source.tree.MethodTree;
import com.sun.source.tree.NewArrayTree;
import com.sun.source.tree.NewClassTree;
import com.sun.source.tree.ParenthesizedTree;
import com.sun.source.tree.SynchronizedTree;
import com.sun.source.tree.ThrowTree;
import com.sun.source.tree.Tree;
import com.sun.source.tree.TryTree;
import com.sun.source.tree.TypeCastTree;
import com.sun.source.tree.UnaryTree;
import com.sun.source.tree.VariableTree;
import com.sun.source.tree.WhileLoopTree;
import com.sun.source.util.JavacTask;
import com.sun.source.util.TreePath;
import com.sun.source.util.TreePathScanner;
import com.sun.source.util.Trees;
import java.net.URI;
import java.util.ArrayList;
import java.util.HashMap;
import java.util.List;
import java.util.Map;
import java.util.Set;
import java.util.TreeMap;
import java.util.TreeSet;
import javax.lang.model.element.Element;
import javax.lang.model.element.ElementKind;
import javax.lang.model.element.Modifier;
import javax.lang.model.type.ArrayType;
import javax.lang.model.type.TypeKind;
import javax.lang.model.type.TypeMirror;
import javax.tools.JavaFileObject;
import javax.tools.SimpleJavaFileObject;
import javax.tools.ToolProvider;

/**
 * Looks a source text through for what LANGUAGE.md forbids, as far as that can be told from the
 * text: rules 1 to 6 and 8 to 12, and 13 by the short list of the library in rule 4. It is stricter
 * than the rules where the program doesn't need what they allow: no recursion, no try, few of the
 * library, nothing made in a loop of a method. Whether an index is looked at before it is used
 * (rule 7) it can't tell.
 */
final class LanguageRules extends TreePathScanner<Void, Void> {
    private static final int DEEPEST = 8;
    private static final int PARAMETERS = 7;
    private static final int METHOD_LINES = 60;
    private static final int CLASSES = 12;
    private static final int FIELDS = 20;
    private static final String EXCEPTIONS = "IllegalStateException IllegalArgumentException "
            + "IndexOutOfBoundsException ArithmeticException UnsupportedOperationException "
            + "NoSuchElementException RuntimeException";
    private static final Map<String, Set<String>> LIBRARY = Map.of(
            "Math", Set.of("max", "min", "abs", "floorDiv", "floorMod"),
            "System", Set.of("arraycopy"),
            "Arrays", Set.of("copyOf", "copyOfRange", "fill"));
    private static final Set<Tree.Kind> ON_FLOATS = Set.of(Tree.Kind.PLUS, Tree.Kind.MINUS,
            Tree.Kind.MULTIPLY, Tree.Kind.DIVIDE, Tree.Kind.LESS_THAN, Tree.Kind.GREATER_THAN,
            Tree.Kind.LESS_THAN_EQUAL, Tree.Kind.GREATER_THAN_EQUAL, Tree.Kind.EQUAL_TO,
            Tree.Kind.NOT_EQUAL_TO);
    private static final Set<Tree.Kind> STEPS = Set.of(Tree.Kind.PREFIX_INCREMENT,
            Tree.Kind.PREFIX_DECREMENT, Tree.Kind.POSTFIX_INCREMENT, Tree.Kind.POSTFIX_DECREMENT);

    private final List<String> found = new ArrayList<>();
    private final Map<String, Set<String>> calls = new TreeMap<>();
    private final Map<String, Integer> depths = new HashMap<>();
    private final Trees trees;
    private final CompilationUnitTree unit;
    private int classes;
    private int loops;
    private String method;
    private boolean isConstructor;

    private LanguageRules(Trees trees, CompilationUnitTree unit) {
        this.trees = trees;
        this.unit = unit;
    }

    /** What is wrong with a text that compiles, a line each. */
    static List<String> findIn(String text) throws Exception {
        JavaFileObject file = new SimpleJavaFileObject(URI.create("string:///X.java"),
                JavaFileObject.Kind.SOURCE) {
            @Override
            public CharSequence getCharContent(boolean ignoreEncodingErrors) {
                return text;
            }

            @Override
            public boolean isNameCompatible(String simpleName, Kind kind) {
                return true;
            }
        };
        JavacTask task = (JavacTask) ToolProvider.getSystemJavaCompiler().getTask(null, null,
                null, List.of("-proc:none"), null, List.of(file));
        CompilationUnitTree unit = task.parse().iterator().next();
        task.analyze();
        LanguageRules rules = new LanguageRules(Trees.instance(task), unit);
        rules.lookThrough();
        return rules.found;
    }

    private void lookThrough() {
        forbid(1, unit.getPackageName() != null, "a package line", unit);
        forbid(1, unit.getTypeDecls().size() != 1, "more than one class in the file", unit);
        scan(unit, null);
        forbid(11, classes > CLASSES, classes + " classes", unit);
        for (String name : calls.keySet()) {
            int depth = depthOf(name, new ArrayList<>());
            forbid(11, depth > DEEPEST, depth + " calls deep: " + chainFrom(name), unit);
        }
    }

    private void forbid(int rule, boolean isWrong, String what, Tree where) {
        if (isWrong) {
            long at = trees.getSourcePositions().getStartPosition(unit, where);
            found.add("rule " + rule + ", line " + lineOf(at) + ": " + what);
        }
    }

    private long lineOf(long position) {
        return position < 0 ? 0 : unit.getLineMap().getLineNumber(position);
    }

    // How deep the calls go, the called methods' own calls included.

    private int depthOf(String name, List<String> open) {
        if (!calls.containsKey(name)) {
            return 0;
        }
        if (open.contains(name)) {
            forbid(8, true, "a recursion: " + name, unit);
            return 0;
        }
        if (!depths.containsKey(name)) {
            open.add(name);
            int deepest = 0;
            for (String called : calls.get(name)) {
                deepest = Math.max(deepest, depthOf(called, open));
            }
            open.remove(name);
            depths.put(name, deepest + 1);
        }
        return depths.get(name);
    }

    private String chainFrom(String name) {
        for (String called : calls.getOrDefault(name, Set.of())) {
            if (depths.getOrDefault(called, 0) == depths.get(name) - 1 && calls.containsKey(called)) {
                return name + " > " + chainFrom(called);
            }
        }
        return name;
    }

    private Element elementOf(Tree tree) {
        return trees.getElement(new TreePath(getCurrentPath(), tree));
    }

    private TypeMirror typeOf(Tree tree) {
        return trees.getTypeMirror(new TreePath(getCurrentPath(), tree));
    }

    private static String nameOf(Element element) {
        return element.getEnclosingElement().getSimpleName() + "." + element;
    }

    private boolean isOwn(Element element) {
        Element outer = element;
        while (outer.getEnclosingElement() != null
                && outer.getEnclosingElement().getKind() != ElementKind.PACKAGE) {
            outer = outer.getEnclosingElement();
        }
        return outer.getEnclosingElement() != null
                && trees.getPath(outer) != null;
    }

    @Override
    public Void visitClass(ClassTree tree, Void none) {
        classes++;
        Element type = trees.getElement(getCurrentPath());
        boolean isOuter = type.getEnclosingElement().getKind() == ElementKind.PACKAGE;
        Set<Modifier> modifiers = type.getModifiers();
        if (isOuter) {
            forbid(1, !modifiers.contains(Modifier.PUBLIC) || !modifiers.contains(Modifier.FINAL),
                    "the class is not public and final", tree);
        } else {
            forbid(1, modifiers.contains(Modifier.PUBLIC) || modifiers.contains(Modifier.PROTECTED)
                    || !modifiers.contains(Modifier.STATIC), "not a nested static class", tree);
        }
        int fields = 0;
        for (Tree member : tree.getMembers()) {
            if (member instanceof VariableTree) {
                fields += lookAtField((VariableTree) member, isOuter);
            }
            forbid(5, member instanceof BlockTree, "an initialiser block", member);
        }
        forbid(11, fields > FIELDS, fields + " fields", tree);
        return super.visitClass(tree, none);
    }

    /** How many fields of objects this is, 1 or 0. */
    private int lookAtField(VariableTree field, boolean isOuter) {
        Set<Modifier> modifiers = field.getModifiers().getFlags();
        forbid(1, isOuter && !modifiers.contains(Modifier.PRIVATE), "a field that is seen", field);
        if (!modifiers.contains(Modifier.STATIC)) {
            return 1;
        }
        forbid(5, !modifiers.contains(Modifier.FINAL), "static state", field);
        forbid(5, typeOf(field) instanceof ArrayType && !isWrittenOut(field.getInitializer()),
                "a static array that is not written out", field);
        return 0;
    }

    private static boolean isWrittenOut(ExpressionTree value) {
        return value instanceof NewArrayTree && ((NewArrayTree) value).getInitializers() != null;
    }

    @Override
    public Void visitMethod(MethodTree tree, Void none) {
        Element element = trees.getElement(getCurrentPath());
        method = nameOf(element);
        isConstructor = element.getKind() == ElementKind.CONSTRUCTOR;
        calls.put(method, new TreeSet<>());
        forbid(11, tree.getParameters().size() > PARAMETERS, "too many parameters", tree);
        long first = trees.getSourcePositions().getStartPosition(unit, tree);
        long last = trees.getSourcePositions().getEndPosition(unit, tree);
        forbid(11, lineOf(last) - lineOf(first) >= METHOD_LINES, "a long method", tree);
        forbid(6, Set.of("equals", "hashCode", "toString").contains(tree.getName().toString()),
                "a method of every object", tree);
        if (tree.getReturnType() != null) {
            lookAtType(typeOf(tree.getReturnType()), tree);
        }
        super.visitMethod(tree, none);
        method = null;
        return null;
    }

    @Override
    public Void visitVariable(VariableTree tree, Void none) {
        lookAtType(trees.getElement(getCurrentPath()).asType(), tree);
        return super.visitVariable(tree, none);
    }

    private void lookAtType(TypeMirror type, Tree where) {
        TypeMirror inner = type;
        int dimensions = 0;
        while (inner instanceof ArrayType) {
            inner = ((ArrayType) inner).getComponentType();
            dimensions++;
        }
        boolean isNumber = inner.getKind().isPrimitive();
        boolean isNamed = inner.getKind() == TypeKind.DECLARED;
        String name = inner.toString();
        boolean isLibrary = name.startsWith("java");
        forbid(3, isNamed && isLibrary && !name.equals("java.lang.String")
                && !name.equals("java.lang.StringBuilder"), "type " + type, where);
        forbid(3, dimensions > (isNumber ? 2 : 1), "an array of " + type, where);
    }

    @Override
    public Void visitMethodInvocation(MethodInvocationTree tree, Void none) {
        Element called = elementOf(tree.getMethodSelect());
        Element owner = called.getEnclosingElement();
        if (isOwn(owner)) {
            forbid(5, method == null, "a call in an initialiser", tree);
            note(called);
        } else if (called.getKind() != ElementKind.CONSTRUCTOR) {
            Set<String> allowed = LIBRARY.getOrDefault(owner.getSimpleName().toString(), Set.of());
            forbid(4, !allowed.contains(called.getSimpleName().toString()), "a call of " + called,
                    tree);
            for (ExpressionTree argument : tree.getArguments()) {
                forbid(3, isFloat(argument), "a call of the library with a float", tree);
            }
        }
        return super.visitMethodInvocation(tree, none);
    }

    private void note(Element called) {
        if (method != null) {
            calls.get(method).add(nameOf(called));
        }
    }

    @Override
    public Void visitNewClass(NewClassTree tree, Void none) {
        Element made = elementOf(tree.getIdentifier());
        boolean isThrown = getCurrentPath().getParentPath().getLeaf() instanceof ThrowTree;
        forbid(12, loops > 0 && !isConstructor && !isThrown, "an object made in a loop", tree);
        forbid(4, !isOwn(made) && !isThrown, "a new " + made, tree);
        if (isOwn(made)) {
            note(trees.getElement(getCurrentPath()));
        }
        for (ExpressionTree argument : tree.getArguments()) {
            forbid(12, isConstructor && isReference(argument), "a constructor hands out", tree);
        }
        return super.visitNewClass(tree, none);
    }

    private boolean isReference(ExpressionTree tree) {
        TypeMirror type = typeOf(tree);
        return !type.getKind().isPrimitive() && !(tree instanceof LiteralTree);
    }

    @Override
    public Void visitNewArray(NewArrayTree tree, Void none) {
        forbid(12, loops > 0 && !isConstructor, "an array made in a loop", tree);
        return super.visitNewArray(tree, none);
    }

    @Override
    public Void visitThrow(ThrowTree tree, Void none) {
        forbid(6, isConstructor, "a throw in a constructor", tree);
        boolean isNew = tree.getExpression() instanceof NewClassTree;
        forbid(6, !isNew, "a throw of what is not new", tree);
        if (isNew) {
            NewClassTree made = (NewClassTree) tree.getExpression();
            forbid(6, !List.of(EXCEPTIONS.split(" ")).contains(made.getIdentifier().toString()),
                    "a throw of " + made, tree);
            for (ExpressionTree argument : made.getArguments()) {
                forbid(6, !(argument instanceof LiteralTree), "a text that is not written", tree);
            }
        }
        return super.visitThrow(tree, none);
    }

    @Override
    public Void visitBinary(BinaryTree tree, Void none) {
        boolean hasString = isString(tree.getLeftOperand()) || isString(tree.getRightOperand());
        boolean isPlus = tree.getKind() == Tree.Kind.PLUS;
        forbid(10, hasString && isPlus, "joined Strings", tree);
        forbid(6, hasString && !isPlus, "compared Strings", tree);
        forbid(3, (isFloat(tree.getLeftOperand()) || isFloat(tree.getRightOperand()))
                && !ON_FLOATS.contains(tree.getKind()), tree.getKind() + " on floats", tree);
        return super.visitBinary(tree, none);
    }

    @Override
    public Void visitCompoundAssignment(CompoundAssignmentTree tree, Void none) {
        forbid(10, isString(tree.getVariable()), "joined Strings", tree);
        forbidConstant(tree.getVariable(), tree);
        return super.visitCompoundAssignment(tree, none);
    }

    private boolean isString(ExpressionTree tree) {
        return String.valueOf(typeOf(tree)).equals("java.lang.String");
    }

    private boolean isFloat(ExpressionTree tree) {
        TypeKind kind = typeOf(tree).getKind();
        return kind == TypeKind.FLOAT || kind == TypeKind.DOUBLE;
    }

    @Override
    public Void visitTypeCast(TypeCastTree tree, Void none) {
        forbid(6, !typeOf(tree).getKind().isPrimitive(), "a cast of an object", tree);
        return super.visitTypeCast(tree, none);
    }

    @Override
    public Void visitForLoop(ForLoopTree tree, Void none) {
        forbid(9, tree.getCondition() == null || isTrue(tree.getCondition()),
                "a loop without a bound", tree);
        loops++;
        super.visitForLoop(tree, none);
        loops--;
        return null;
    }

    @Override
    public Void visitWhileLoop(WhileLoopTree tree, Void none) {
        forbid(9, isTrue(tree.getCondition()), "a loop without a bound", tree);
        loops++;
        super.visitWhileLoop(tree, none);
        loops--;
        return null;
    }

    @Override
    public Void visitDoWhileLoop(DoWhileLoopTree tree, Void none) {
        forbid(9, isTrue(tree.getCondition()), "a loop without a bound", tree);
        loops++;
        super.visitDoWhileLoop(tree, none);
        loops--;
        return null;
    }

    @Override
    public Void visitEnhancedForLoop(EnhancedForLoopTree tree, Void none) {
        loops++;
        super.visitEnhancedForLoop(tree, none);
        loops--;
        return null;
    }

    private static boolean isTrue(ExpressionTree condition) {
        ExpressionTree inner = condition;
        while (inner instanceof ParenthesizedTree) {
            inner = ((ParenthesizedTree) inner).getExpression();
        }
        return inner instanceof LiteralTree && Boolean.TRUE.equals(((LiteralTree) inner).getValue());
    }

    @Override
    public Void visitAssignment(AssignmentTree tree, Void none) {
        forbidConstant(tree.getVariable(), tree);
        return super.visitAssignment(tree, none);
    }

    @Override
    public Void visitUnary(UnaryTree tree, Void none) {
        if (STEPS.contains(tree.getKind())) {
            forbidConstant(tree.getExpression(), tree);
        }
        return super.visitUnary(tree, none);
    }

    /** No element of an array that is a constant is written. */
    private void forbidConstant(ExpressionTree written, Tree where) {
        if (written instanceof ArrayAccessTree) {
            Element array = elementOf(((ArrayAccessTree) written).getExpression());
            forbid(5, array != null && array.getModifiers().contains(Modifier.STATIC),
                    "a constant that is changed", where);
        }
    }

    @Override
    public Void visitLambdaExpression(LambdaExpressionTree tree, Void none) {
        forbid(2, true, "a lambda", tree);
        return super.visitLambdaExpression(tree, none);
    }

    @Override
    public Void visitMemberReference(MemberReferenceTree tree, Void none) {
        forbid(2, true, "a method reference", tree);
        return super.visitMemberReference(tree, none);
    }

    @Override
    public Void visitTry(TryTree tree, Void none) {
        forbid(6, true, "a try", tree);
        return super.visitTry(tree, none);
    }

    @Override
    public Void visitSynchronized(SynchronizedTree tree, Void none) {
        forbid(6, true, "synchronized", tree);
        return super.visitSynchronized(tree, none);
    }

    @Override
    public Void visitAssert(AssertTree tree, Void none) {
        forbid(6, true, "an assert", tree);
        return super.visitAssert(tree, none);
    }
}
