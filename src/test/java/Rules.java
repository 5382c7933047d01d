import com.sun.source.tree.AssertTree;
import com.sun.source.tree.BinaryTree;
import com.sun.source.tree.BlockTree;
import com.sun.source.tree.ClassTree;
import com.sun.source.tree.CompilationUnitTree;
import com.sun.source.tree.CompoundAssignmentTree;
import com.sun.source.tree.ConditionalExpressionTree;
import com.sun.source.tree.DoWhileLoopTree;
import com.sun.source.tree.ExpressionTree;
import com.sun.source.tree.ForLoopTree;
import com.sun.source.tree.IfTree;
import com.sun.source.tree.LambdaExpressionTree;
import com.sun.source.tree.LiteralTree;
import com.sun.source.tree.MemberReferenceTree;
import com.sun.source.tree.MemberSelectTree;
import com.sun.source.tree.MethodInvocationTree;
import com.sun.source.tree.MethodTree;
import com.sun.source.tree.NewArrayTree;
import com.sun.source.tree.NewClassTree;
import com.sun.source.tree.SynchronizedTree;
import com.sun.source.tree.ThrowTree;
import com.sun.source.tree.Tree;
import com.sun.source.tree.TryTree;
import com.sun.source.tree.TypeCastTree;
import com.sun.source.tree.VariableTree;
import com.sun.source.tree.WhileLoopTree;
import com.sun.source.util.JavacTask;
import com.sun.source.util.TreePath;
import com.sun.source.util.TreePathScanner;
import com.sun.source.util.Trees;
import java.io.IOException;
import java.io.UncheckedIOException;
import java.net.URI;
import java.util.HashSet;
import java.util.List;
import java.util.Map;
import java.util.Set;
import java.util.TreeMap;
import java.util.TreeSet;
import java.util.regex.Pattern;
import javax.lang.model.element.Element;
import javax.lang.model.element.ElementKind;
import javax.lang.model.element.Modifier;
import javax.lang.model.element.VariableElement;
import javax.lang.model.type.ArrayType;
import javax.lang.model.type.TypeKind;
import javax.lang.model.type.TypeMirror;
import javax.tools.JavaFileObject;
import javax.tools.SimpleJavaFileObject;
import javax.tools.ToolProvider;

/** Looks through a source for what LANGUAGE.md rules out; somewhat stricter than its words where that is simpler. */
final class Rules extends TreePathScanner<Void, Void> {
    private static final int MOST_PARAMETERS = 7;
    private static final int MOST_LINES = 60;
    private static final int MOST_DEEP = 8;
    private static final int MOST_CLASSES = 12;
    private static final int MOST_FIELDS = 20;
    private static final Set<String> OTHER_TYPES = Set.of("java.lang.String", "java.lang.StringBuilder", "java.lang.Integer",
            "java.util.List", "java.util.ArrayList");
    private static final Map<String, Set<String>> LIBRARY = Map.of(
            "java.lang.String", Set.of("length", "charAt", "isEmpty", "equals", "indexOf", "substring", "toCharArray", "<init>"),
            "java.lang.StringBuilder", Set.of("append", "charAt", "setCharAt", "setLength", "deleteCharAt", "reverse",
                    "length", "toString", "<init>"),
            "java.util.ArrayList", Set.of("add", "get", "set", "remove", "size", "isEmpty", "clear", "<init>"),
            "java.util.List", Set.of("add", "get", "set", "remove", "size", "isEmpty", "clear", "of"),
            "java.lang.Math", Set.of("max", "min", "abs", "floorDiv", "floorMod"),
            "java.lang.Integer", Set.of("max", "min", "compare", "bitCount"),
            "java.lang.Long", Set.of("max", "min", "compare", "bitCount"),
            "java.lang.System", Set.of("arraycopy"),
            "java.util.Arrays", Set.of("fill", "copyOf", "copyOfRange"),
            "java.lang.Object", Set.of("<init>", "clone"));

    private final Set<String> face;
    private final Set<String> broken = new TreeSet<>();
    private final Map<String, Set<String>> calls = new TreeMap<>();
    private final Set<String> entries = new TreeSet<>();
    private Trees trees;
    private CompilationUnitTree unit;
    private String method = "";
    private int classes = 0;

    /** A source that is kept in a text. */
    private static final class Text extends SimpleJavaFileObject {
        private final String text;

        Text(String text) {
            super(URI.create("string:///PassedPenance.java"), Kind.SOURCE);
            this.text = text;
        }

        @Override
        public CharSequence getCharContent(boolean ignored) {
            return text;
        }
    }

    Rules(String source, Set<String> face) {
        this.face = face;
        List<JavaFileObject> files = List.of(new Text(source));
        JavacTask task = (JavacTask) ToolProvider.getSystemJavaCompiler().getTask(null, null, null, List.of("-proc:none"),
                null, files);
        try {
            unit = task.parse().iterator().next();
            task.analyze();
        } catch (IOException e) {
            throw new UncheckedIOException(e);
        }
        trees = Trees.instance(task);
        must(unit.getTypeDecls().size() == 1 && unit.getPackage() == null, 1, "one class, no package", unit);
        must(source.chars().allMatch(c -> c == '\n' || c >= ' ' && c < 127), 4, "signs of ASCII alone", unit);
        scan(unit, null);
        must(classes <= MOST_CLASSES, 11, "at most twelve classes", unit);
        for (String entry : entries) {
            int deep = depthOf(entry, new HashSet<>());
            must(deep <= MOST_DEEP, 11, entry + " goes " + deep + " calls deep", unit);
        }
    }

    /** The rules that are broken, each with its number, what is asked and where it is not so. */
    Set<String> broken() {
        return broken;
    }

    private void must(boolean holds, int rule, String what, Tree where) {
        if (!holds) {
            long at = trees.getSourcePositions().getStartPosition(unit, where);
            broken.add(rule + ": " + what + " (line " + unit.getLineMap().getLineNumber(Math.max(0, at)) + ")");
        }
    }

    private void never(int rule, String what, Tree where) {
        must(false, rule, "no " + what, where);
    }

    // ---- classes and their members ----

    @Override
    public Void visitClass(ClassTree tree, Void none) {
        Tree around = getCurrentPath().getParentPath().getLeaf();
        Set<Modifier> modifiers = tree.getModifiers().getFlags();
        classes++;
        if (around instanceof CompilationUnitTree) {
            must(modifiers.equals(Set.of(Modifier.PUBLIC, Modifier.FINAL)), 1, "public and final", tree);
        } else {
            boolean isKind = tree.getKind() != Tree.Kind.CLASS;
            must(around instanceof ClassTree && (isKind || modifiers.contains(Modifier.STATIC)), 2, "static nested class", tree);
            must(!modifiers.contains(Modifier.PUBLIC) && !modifiers.contains(Modifier.PROTECTED), 1, "class of its own", tree);
        }
        int fields = 0;
        for (Tree member : tree.getMembers()) {
            if (member instanceof VariableTree field && !field.getModifiers().getFlags().contains(Modifier.STATIC)) {
                fields++;
            }
            must(!(member instanceof BlockTree block && block.isStatic()), 5, "no static initialiser", member);
        }
        must(fields <= MOST_FIELDS, 11, "at most twenty fields", tree);
        return super.visitClass(tree, none);
    }

    private boolean isOfOuterClass() {
        return getCurrentPath().getParentPath().getLeaf() instanceof ClassTree
                && getCurrentPath().getParentPath().getParentPath().getLeaf() instanceof CompilationUnitTree;
    }

    @Override
    public Void visitVariable(VariableTree tree, Void none) {
        Set<Modifier> modifiers = tree.getModifiers().getFlags();
        must(isAllowed(elementOf(tree).asType()), 3, "type " + tree.getType(), tree);
        if (isOfOuterClass()) {
            boolean isFace = tree.getName().contentEquals("NONE") && modifiers.contains(Modifier.PUBLIC);
            must(isFace || modifiers.contains(Modifier.PRIVATE), 1, tree.getName() + " is private", tree);
        }
        if (modifiers.contains(Modifier.STATIC)) {
            boolean isConstant = ((VariableElement) elementOf(tree)).getConstantValue() != null;
            boolean isWritten = tree.getInitializer() instanceof NewArrayTree row && row.getInitializers() != null;
            must(modifiers.contains(Modifier.FINAL) && (isConstant || isWritten), 5, tree.getName() + " is a constant", tree);
        }
        return super.visitVariable(tree, none);
    }

    private Element elementOf(Tree tree) {
        return trees.getElement(new TreePath(getCurrentPath().getParentPath(), tree));
    }

    private static boolean isOwn(Element element) {
        Element around = element;
        while (around.getEnclosingElement() != null && around.getEnclosingElement().getKind() != ElementKind.PACKAGE) {
            around = around.getEnclosingElement();
        }
        return around.getSimpleName().contentEquals("PassedPenance");
    }

    private static boolean isNumber(TypeMirror type) {
        return type.getKind().isPrimitive();
    }

    private boolean isOwnOrListed(TypeMirror type) {
        String name = type.toString().replaceAll("<.*", "");
        return type.getKind() == TypeKind.DECLARED && (name.startsWith("PassedPenance") || OTHER_TYPES.contains(name));
    }

    private boolean isAllowed(TypeMirror type) {
        if (type instanceof ArrayType row) {
            TypeMirror inner = row.getComponentType();
            if (inner instanceof ArrayType inRow) {
                return isNumber(inRow.getComponentType());
            }
            return isNumber(inner) || inner.toString().startsWith("PassedPenance");
        }
        return type.getKind() == TypeKind.VOID || isNumber(type) || isOwnOrListed(type);
    }

    @Override
    public Void visitMethod(MethodTree tree, Void none) {
        String name = tree.getName().toString();
        Set<Modifier> modifiers = tree.getModifiers().getFlags();
        boolean isMaker = name.equals("<init>");
        if (isOfOuterClass()) {
            boolean isFace = modifiers.contains(Modifier.PUBLIC) && (face.contains(name) || isMaker);
            boolean isGenerated = isMaker && trees.getSourcePositions().getEndPosition(unit, tree) < 0;
            must(isFace || isGenerated || modifiers.contains(Modifier.PRIVATE) && !face.contains(name), 1,
                    name + " is of the face, or private with a name of its own", tree);
        } else {
            must(!face.contains(name), 1, name + " has a name of its own", tree);
        }
        must(tree.getParameters().size() <= MOST_PARAMETERS, 11, name + " has at most seven parameters", tree);
        if (!isMaker) {
            must(isAllowed(trees.getTypeMirror(new TreePath(getCurrentPath(), tree.getReturnType()))), 3,
                    "type of " + name, tree);
        }
        long first = lineOf(trees.getSourcePositions().getStartPosition(unit, tree));
        long last = lineOf(trees.getSourcePositions().getEndPosition(unit, tree));
        must(last - first < MOST_LINES, 11, name + " is short", tree);
        String kept = method;
        method = nameOf(elementOf(tree));
        entries.add(method);
        super.visitMethod(tree, none);
        method = kept;
        return null;
    }

    private long lineOf(long position) {
        return position < 0 ? 0 : unit.getLineMap().getLineNumber(position);
    }

    private static String nameOf(Element of) {
        return of.getEnclosingElement() + "." + of;
    }

    // ---- calls ----

    @Override
    public Void visitMethodInvocation(MethodInvocationTree tree, Void none) {
        noteCall(trees.getElement(getCurrentPath()), tree);
        noteArguments(tree.getArguments(), tree);
        return super.visitMethodInvocation(tree, none);
    }

    @Override
    public Void visitNewClass(NewClassTree tree, Void none) {
        must(tree.getClassBody() == null, 2, "no class without a name", tree);
        must(!isInLoop(), 12, "nothing is made in a loop", tree);
        noteCall(trees.getElement(getCurrentPath()), tree);
        noteArguments(tree.getArguments(), tree);
        return super.visitNewClass(tree, none);
    }

    @Override
    public Void visitNewArray(NewArrayTree tree, Void none) {
        must(!isInLoop(), 12, "nothing is made in a loop", tree);
        return super.visitNewArray(tree, none);
    }

    private void noteCall(Element called, Tree tree) {
        if (called == null) {
            return;
        }
        String owner = called.getEnclosingElement().toString();
        if (isOwn(called)) {
            calls.computeIfAbsent(method, key -> new TreeSet<>()).add(nameOf(called));
            return;
        }
        String name = called.getSimpleName().toString();
        boolean isOfRow = tree.toString().contains("clone()");
        must(LIBRARY.getOrDefault(owner, Set.of()).contains(name) || isOfRow, 4, "no " + owner + "." + name, tree);
    }

    /** An object is handed on by none of its own methods: so no answer depends on which one it is. */
    private void noteArguments(List<? extends ExpressionTree> arguments, Tree tree) {
        for (ExpressionTree argument : arguments) {
            must(!argument.toString().equals("this"), 12, "hands out nothing of itself", tree);
        }
    }

    private int depthOf(String caller, Set<String> open) {
        if (!open.add(caller)) {
            must(false, 8, caller + " calls itself", unit);
            return 0;
        }
        int deepest = 0;
        for (String called : calls.getOrDefault(caller, Set.of())) {
            deepest = Math.max(deepest, 1 + depthOf(called, open));
        }
        open.remove(caller);
        return deepest;
    }

    @Override
    public Void visitMemberSelect(MemberSelectTree tree, Void none) {
        Element element = trees.getElement(getCurrentPath());
        boolean isField = element != null && element.getKind() == ElementKind.FIELD;
        boolean isLength = tree.getIdentifier().contentEquals("length");
        must(!isField || isLength || isOwn(element), 4, "no " + tree, tree);
        return super.visitMemberSelect(tree, none);
    }

    // ---- statements ----

    @Override
    public Void visitLambdaExpression(LambdaExpressionTree tree, Void none) {
        never(2, "lambda", tree);
        return super.visitLambdaExpression(tree, none);
    }

    @Override
    public Void visitMemberReference(MemberReferenceTree tree, Void none) {
        never(2, "method reference", tree);
        return null;
    }

    @Override
    public Void visitThrow(ThrowTree tree, Void none) {
        never(6, "throw", tree);
        return super.visitThrow(tree, none);
    }

    @Override
    public Void visitTry(TryTree tree, Void none) {
        never(6, "try", tree);
        return super.visitTry(tree, none);
    }

    @Override
    public Void visitSynchronized(SynchronizedTree tree, Void none) {
        never(6, "synchronized", tree);
        return super.visitSynchronized(tree, none);
    }

    @Override
    public Void visitAssert(AssertTree tree, Void none) {
        never(6, "assert", tree);
        return super.visitAssert(tree, none);
    }

    @Override
    public Void visitTypeCast(TypeCastTree tree, Void none) {
        must(isNumber(trees.getTypeMirror(new TreePath(getCurrentPath(), tree.getType()))), 6, "casts of numbers alone", tree);
        return super.visitTypeCast(tree, none);
    }

    @Override
    public Void visitLiteral(LiteralTree tree, Void none) {
        if (tree.getValue() instanceof String text) {
            must(text.chars().allMatch(c -> c > 0 && c < 128), 4, "signs of a constant", tree);
        }
        return super.visitLiteral(tree, none);
    }

    // ---- arithmetic ----

    private TypeMirror typeOf(Tree part) {
        return trees.getTypeMirror(new TreePath(getCurrentPath(), part));
    }

    private boolean isText(Tree part) {
        return Set.of("java.lang.String", "java.lang.Integer").contains(String.valueOf(typeOf(part)));
    }

    @Override
    public Void visitBinary(BinaryTree tree, Void none) {
        Tree left = tree.getLeftOperand();
        Tree right = tree.getRightOperand();
        switch (tree.getKind()) {
            case EQUAL_TO, NOT_EQUAL_TO -> must(!isText(left) || !isText(right), 6, "no == of texts", tree);
            case PLUS -> must(!isText(left) && !isText(right), 10, "no + of texts", tree);
            case DIVIDE, REMAINDER -> must(isLookedAt(tree.getRightOperand()), 7, "divisor is looked at", tree);
            default -> {
            }
        }
        return super.visitBinary(tree, none);
    }

    @Override
    public Void visitCompoundAssignment(CompoundAssignmentTree tree, Void none) {
        boolean divides = tree.getKind() == Tree.Kind.DIVIDE_ASSIGNMENT || tree.getKind() == Tree.Kind.REMAINDER_ASSIGNMENT;
        must(!divides || isLookedAt(tree.getExpression()), 7, "divisor is looked at", tree);
        must(!isText(tree.getVariable()), 10, "no + of texts", tree);
        return super.visitCompoundAssignment(tree, none);
    }

    /** A constant but 0, or a name that a condition around it compares with 0. */
    private boolean isLookedAt(Tree divisor) {
        Element element = trees.getElement(new TreePath(getCurrentPath(), divisor));
        if (divisor instanceof LiteralTree number) {
            return ((Number) number.getValue()).longValue() != 0;
        }
        if (element instanceof VariableElement constant && constant.getConstantValue() instanceof Number number) {
            return number.longValue() != 0;
        }
        Pattern compared = Pattern.compile("\\b" + Pattern.quote(divisor.toString()) + " (>|!=|==) 0\\b");
        for (Tree around : getCurrentPath()) {
            Tree condition = conditionOf(around);
            if (condition != null && compared.matcher(condition.toString()).find()) {
                return true;
            }
        }
        return false;
    }

    private static Tree conditionOf(Tree tree) {
        if (tree instanceof IfTree branch) {
            return branch.getCondition();
        }
        if (tree instanceof ConditionalExpressionTree branch) {
            return branch.getCondition();
        }
        return tree instanceof ForLoopTree loop ? loop.getCondition() : null;
    }

    // ---- loops ----

    private boolean isInLoop() {
        for (Tree around : getCurrentPath()) {
            if (around instanceof ForLoopTree || around instanceof WhileLoopTree || around instanceof DoWhileLoopTree) {
                return true;
            }
            if (around instanceof MethodTree) {
                return false;
            }
        }
        return false;
    }

    private void looksAtEnd(Tree condition, Tree loop) {
        boolean hasEnd = condition != null && Pattern.compile(" (<|<=|>|>=) ").matcher(condition.toString()).find();
        must(hasEnd, 9, "a loop's end is seen from its lines", loop);
    }

    @Override
    public Void visitForLoop(ForLoopTree tree, Void none) {
        looksAtEnd(tree.getCondition(), tree);
        return super.visitForLoop(tree, none);
    }

    @Override
    public Void visitWhileLoop(WhileLoopTree tree, Void none) {
        looksAtEnd(tree.getCondition(), tree);
        return super.visitWhileLoop(tree, none);
    }

    @Override
    public Void visitDoWhileLoop(DoWhileLoopTree tree, Void none) {
        looksAtEnd(tree.getCondition(), tree);
        return super.visitDoWhileLoop(tree, none);
    }
}
