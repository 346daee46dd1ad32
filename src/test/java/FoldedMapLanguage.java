import com.sun.source.tree.AssertTree;
import com.sun.source.tree.AssignmentTree;
import com.sun.source.tree.ArrayAccessTree;
import com.sun.source.tree.BinaryTree;
import com.sun.source.tree.ClassTree;
import com.sun.source.tree.CompilationUnitTree;
import com.sun.source.tree.CompoundAssignmentTree;
import com.sun.source.tree.ExpressionTree;
import com.sun.source.tree.ImportTree;
import com.sun.source.tree.InstanceOfTree;
import com.sun.source.tree.LambdaExpressionTree;
import com.sun.source.tree.LiteralTree;
import com.sun.source.tree.MemberReferenceTree;
import com.sun.source.tree.MethodInvocationTree;
import com.sun.source.tree.MethodTree;
import com.sun.source.tree.NewArrayTree;
import com.sun.source.tree.NewClassTree;
import com.sun.source.tree.SynchronizedTree;
import com.sun.source.tree.ThrowTree;
import com.sun.source.tree.Tree;
import com.sun.source.tree.TryTree;
import com.sun.source.tree.TypeCastTree;
import com.sun.source.tree.UnaryTree;
import com.sun.source.tree.VariableTree;
import com.sun.source.util.JavacTask;
import com.sun.source.util.SourcePositions;
import com.sun.source.util.TreePath;
import com.sun.source.util.TreePathScanner;
import com.sun.source.util.Trees;
import java.io.File;
import java.io.IOException;
import java.util.HashMap;
import java.util.List;
import java.util.Map;
import java.util.Set;
import java.util.TreeSet;
import javax.lang.model.element.Element;
import javax.lang.model.element.ElementKind;
import javax.lang.model.element.Modifier;
import javax.lang.model.element.VariableElement;
import javax.lang.model.type.TypeMirror;
import javax.tools.JavaCompiler;
import javax.tools.StandardJavaFileManager;
import javax.tools.ToolProvider;

/**
 * The rules of LANGUAGE.md, as far as the compiler's own tree of the source shows them. Where the
 * class keeps to less than a rule allows, the test holds it to that: no recursion, no cast but to
 * int, nothing of the library but Math, arraycopy and a String's signs, nothing made by a call.
 * Started from the project's folder; another source may be named, to see that it is refused.
 */
public final class FoldedMapLanguage extends TreePathScanner<Void, Void> {
    private static final Set<String> LIBRARY = Set.of("java.lang.Math.min", "java.lang.Math.max", "java.lang.Math.abs",
        "java.lang.System.arraycopy", "java.lang.String.length", "java.lang.String.charAt", "java.lang.Object.<init>");
    private static final Set<String> VARIABLES = Set.of("int", "long", "boolean", "int[]", "java.lang.String");
    private static final Set<String> CONSTANTS = Set.of("int", "long", "boolean", "char", "java.lang.String");
    private static final Set<String> ROWS = Set.of("int[]", "long[]", "char[]", "byte[]");
    private static final int MOST_CLASSES = 12, MOST_FIELDS = 20, MOST_PARAMETERS = 7, MOST_LINES = 60, MOST_DEEP = 8;

    private final CompilationUnitTree unit;
    private final Trees trees;
    private final SourcePositions places;
    private final Map<String, Set<String>> calls = new HashMap<>();
    private final Set<String> faceNames = new TreeSet<>();
    private final Set<String> otherNames = new TreeSet<>();
    private String caller = "";
    private boolean making = true;
    private int classes = 0;
    private int wrong = 0;

    private FoldedMapLanguage(CompilationUnitTree unit, Trees trees) {
        this.unit = unit;
        this.trees = trees;
        this.places = trees.getSourcePositions();
    }

    private long lineOf(long place) {
        return place < 0 ? 0 : unit.getLineMap().getLineNumber(place);
    }

    private void refuse(int rule, String why, Tree tree) {
        wrong++;
        System.out.println("rule " + rule + ", line " + lineOf(places.getStartPosition(unit, tree)) + ": " + why);
    }

    private Element here() {
        return trees.getElement(getCurrentPath());
    }

    private TypeMirror typeOf(Tree tree) {
        return trees.getTypeMirror(new TreePath(getCurrentPath(), tree));
    }

    private static boolean isOwn(String type) {
        return type.equals("FoldedMap") || type.startsWith("FoldedMap.");
    }

    private static boolean isOwnOrRow(String type) {
        boolean isRow = type.endsWith("[]");
        String one = isRow ? type.substring(0, type.length() - 2) : type;
        return isOwn(one) && !one.endsWith("[]");
    }

    private static boolean isInside(Element e) {
        return e.getEnclosingElement().getKind().isClass();
    }

    // ---- classes, fields, methods

    @Override
    public Void visitImport(ImportTree tree, Void none) {
        refuse(4, "an import", tree);
        return null;
    }

    @Override
    public Void visitClass(ClassTree tree, Void none) {
        classes++;
        Element e = here();
        if (isInside(e)) {
            boolean asTold = e.getModifiers().contains(Modifier.STATIC) && !e.getModifiers().contains(Modifier.PUBLIC)
                && !e.getModifiers().contains(Modifier.PROTECTED);
            if (!asTold) {
                refuse(1, "a class inside that is not static, or can be seen", tree);
            }
            if (!e.getModifiers().contains(Modifier.FINAL)) {
                refuse(12, "a class that another could go over", tree);
            }
        }
        if (e.getKind() != ElementKind.CLASS || tree.getExtendsClause() != null || !tree.getImplementsClause().isEmpty()) {
            refuse(2, "not a plain class", tree);
        }
        int fields = 0;
        for (Tree member : tree.getMembers()) {
            if (member.getKind() == Tree.Kind.BLOCK) {
                refuse(5, "a block of the class", member);
            }
            if (member instanceof VariableTree field && !field.getModifiers().getFlags().contains(Modifier.STATIC)) {
                fields++;
            }
        }
        if (fields > MOST_FIELDS) {
            refuse(11, fields + " fields", tree);
        }
        return super.visitClass(tree, none);
    }

    @Override
    public Void visitVariable(VariableTree tree, Void none) {
        Element e = here();
        String type = e.asType().toString();
        if (!VARIABLES.contains(type) && !isOwnOrRow(type)) {
            refuse(3, "a variable of " + type, tree);
        }
        if (e.getKind() == ElementKind.FIELD) {
            lookAtField(tree, e, type);
            String before = caller;
            caller = e.getEnclosingElement() + ".<init>";
            making = true;
            super.visitVariable(tree, none);
            caller = before;
            return null;
        }
        return super.visitVariable(tree, none);
    }

    private void lookAtField(VariableTree tree, Element e, String type) {
        boolean isConstant = e.getModifiers().contains(Modifier.STATIC);
        boolean isFace = e.getModifiers().contains(Modifier.PUBLIC) && isConstant;
        if (!isInside(e.getEnclosingElement()) && !isFace && !e.getModifiers().contains(Modifier.PRIVATE)) {
            refuse(1, "a field that can be seen", tree);
        }
        if (!isConstant) {
            return;
        }
        boolean isRow = ROWS.contains(type) && tree.getInitializer() instanceof NewArrayTree;
        boolean isNumber = CONSTANTS.contains(type) && ((VariableElement) e).getConstantValue() != null;
        if (!e.getModifiers().contains(Modifier.FINAL) || !isRow && !isNumber) {
            refuse(5, "a static field that is no constant", tree);
        }
    }

    @Override
    public Void visitMethod(MethodTree tree, Void none) {
        Element e = here();
        Element owner = e.getEnclosingElement();
        boolean isConstructor = e.getKind() == ElementKind.CONSTRUCTOR;
        boolean isFace = !isInside(owner) && e.getModifiers().contains(Modifier.PUBLIC);
        if (!isInside(owner) && !isFace && !e.getModifiers().contains(Modifier.PRIVATE)) {
            refuse(1, "a method that can be seen", tree);
        }
        if (!isConstructor) {
            (isFace ? faceNames : otherNames).add(tree.getName().toString());
        }
        if (tree.getParameters().size() > MOST_PARAMETERS) {
            refuse(11, "too many parameters", tree);
        }
        long lines = lineOf(places.getEndPosition(unit, tree)) - lineOf(places.getStartPosition(unit, tree)) + 1;
        if (lines > MOST_LINES) {
            refuse(11, lines + " lines", tree);
        }
        caller = owner + "." + tree.getName();
        making = isConstructor;
        calls.computeIfAbsent(caller, k -> new TreeSet<>());
        return super.visitMethod(tree, none);
    }

    // ---- what is called and made

    @Override
    public Void visitMethodInvocation(MethodInvocationTree tree, Void none) {
        noteCall(here(), tree);
        return super.visitMethodInvocation(tree, none);
    }

    @Override
    public Void visitNewClass(NewClassTree tree, Void none) {
        noteCall(here(), tree);
        if (tree.getClassBody() != null) {
            refuse(2, "a class without a name", tree);
        }
        dueMaking(tree);
        return super.visitNewClass(tree, none);
    }

    @Override
    public Void visitNewArray(NewArrayTree tree, Void none) {
        dueMaking(tree);
        for (ExpressionTree length : tree.getDimensions()) {
            if (!(constantOf(length) instanceof Integer n) || n < 0) {
                refuse(7, "a length that is no constant", tree);
            }
        }
        return super.visitNewArray(tree, none);
    }

    private void noteCall(Element called, Tree tree) {
        String name = called.getEnclosingElement() + "." + called.getSimpleName();
        if (isOwn(called.getEnclosingElement().toString())) {
            calls.computeIfAbsent(caller, k -> new TreeSet<>()).add(name);
        } else if (!LIBRARY.contains(name)) {
            refuse(4, name, tree);
        }
    }

    private void dueMaking(Tree tree) {
        if (!making) {
            refuse(12, "made by a call, not in a constructor", tree);
        }
    }

    // ---- what may not stand in a method

    /** The number that an expression always is, or null. */
    private Object constantOf(ExpressionTree tree) {
        if (tree instanceof LiteralTree literal) {
            return literal.getValue();
        }
        if (tree instanceof BinaryTree both) {
            Object left = constantOf(both.getLeftOperand());
            Object right = constantOf(both.getRightOperand());
            if (!(left instanceof Integer a) || !(right instanceof Integer b)) {
                return null;
            }
            return both.getKind() == Tree.Kind.PLUS ? (Object) (a + b)
                : both.getKind() == Tree.Kind.MULTIPLY ? (Object) (a * b) : null;
        }
        Element e = trees.getElement(new TreePath(getCurrentPath(), tree));
        return e instanceof VariableElement v ? v.getConstantValue() : null;
    }

    @Override
    public Void visitBinary(BinaryTree tree, Void none) {
        boolean divides = tree.getKind() == Tree.Kind.DIVIDE || tree.getKind() == Tree.Kind.REMAINDER;
        if (divides && (!(constantOf(tree.getRightOperand()) instanceof Integer n) || n == 0)) {
            refuse(7, "a divisor that is no constant", tree);
        }
        if (trees.getTypeMirror(getCurrentPath()).toString().equals("java.lang.String")) {
            refuse(10, "texts joined by +", tree);
        }
        return super.visitBinary(tree, none);
    }

    @Override
    public Void visitAssignment(AssignmentTree tree, Void none) {
        dueOwnRow(tree.getVariable());
        return super.visitAssignment(tree, none);
    }

    @Override
    public Void visitCompoundAssignment(CompoundAssignmentTree tree, Void none) {
        dueOwnRow(tree.getVariable());
        boolean divides = tree.getKind() == Tree.Kind.DIVIDE_ASSIGNMENT || tree.getKind() == Tree.Kind.REMAINDER_ASSIGNMENT;
        if (divides) {
            refuse(7, "a divisor that is not looked at", tree);
        }
        return super.visitCompoundAssignment(tree, none);
    }

    @Override
    public Void visitUnary(UnaryTree tree, Void none) {
        if (tree.getExpression() instanceof ArrayAccessTree) {
            dueOwnRow(tree.getExpression());
        }
        return super.visitUnary(tree, none);
    }

    /** A row of constants is never changed. */
    private void dueOwnRow(ExpressionTree target) {
        if (target instanceof ArrayAccessTree access) {
            TreePath path = new TreePath(new TreePath(getCurrentPath(), access), access.getExpression());
            Element row = trees.getElement(path);
            if (row != null && row.getModifiers().contains(Modifier.STATIC)) {
                refuse(5, "a row of constants is changed", target);
            }
        }
    }

    @Override
    public Void visitTypeCast(TypeCastTree tree, Void none) {
        if (!typeOf(tree.getType()).toString().equals("int")) {
            refuse(6, "a cast", tree);
        }
        return super.visitTypeCast(tree, none);
    }

    @Override
    public Void visitInstanceOf(InstanceOfTree tree, Void none) {
        refuse(6, "instanceof", tree);
        return null;
    }

    @Override
    public Void visitThrow(ThrowTree tree, Void none) {
        refuse(6, "throw", tree);
        return null;
    }

    @Override
    public Void visitTry(TryTree tree, Void none) {
        refuse(6, "try", tree);
        return null;
    }

    @Override
    public Void visitSynchronized(SynchronizedTree tree, Void none) {
        refuse(6, "synchronized", tree);
        return null;
    }

    @Override
    public Void visitAssert(AssertTree tree, Void none) {
        refuse(6, "assert", tree);
        return null;
    }

    @Override
    public Void visitLambdaExpression(LambdaExpressionTree tree, Void none) {
        refuse(2, "a lambda", tree);
        return null;
    }

    @Override
    public Void visitMemberReference(MemberReferenceTree tree, Void none) {
        refuse(2, "a method reference", tree);
        return null;
    }

    // ---- the whole

    /** How many calls stand open at most when this one is asked, it too; more than all there are, if it comes again. */
    private int depthOf(String name, Map<String, Integer> known, Set<String> open) {
        if (known.containsKey(name)) {
            return known.get(name);
        }
        if (!open.add(name)) {
            refuse(8, name + " comes to call itself", unit);
            return calls.size();
        }
        int deepest = 0;
        for (String called : calls.getOrDefault(name, Set.of())) {
            deepest = Math.max(deepest, depthOf(called, known, open));
        }
        open.remove(name);
        known.put(name, deepest + 1);
        return deepest + 1;
    }

    private void lookAtTheWhole() {
        if (classes > MOST_CLASSES) {
            refuse(11, classes + " classes", unit);
        }
        Map<String, Integer> depths = new HashMap<>();
        for (String name : new TreeSet<>(calls.keySet())) {
            if (depthOf(name, depths, new TreeSet<>()) > MOST_DEEP) {
                refuse(11, name + " goes " + depths.get(name) + " calls deep", unit);
            }
        }
        otherNames.retainAll(faceNames);
        if (!otherNames.isEmpty()) {
            refuse(1, "names of public methods: " + otherNames, unit);
        }
        if (faceNames.size() != 21) {
            refuse(1, "public methods: " + faceNames, unit);
        }
    }

    private void lookAtSigns() throws IOException {
        CharSequence source = unit.getSourceFile().getCharContent(true);
        for (int i = 0; i < source.length(); i++) {
            if (source.charAt(i) > 126) {
                refuse(4, "a sign above 126 in line " + lineOf(i), unit);
            }
        }
    }

    public static void main(String[] args) throws IOException {
        File source = new File(args.length > 0 ? args[0] : "src/main/java/FoldedMap.java");
        JavaCompiler compiler = ToolProvider.getSystemJavaCompiler();
        try (StandardJavaFileManager files = compiler.getStandardFileManager(null, null, null)) {
            JavacTask task = (JavacTask) compiler.getTask(null, files, null, List.of("--release", "17", "-proc:none"), null,
                files.getJavaFileObjects(source));
            CompilationUnitTree unit = task.parse().iterator().next();
            task.analyze();
            FoldedMapLanguage rules = new FoldedMapLanguage(unit, Trees.instance(task));
            rules.scan(unit, null);
            rules.lookAtTheWhole();
            rules.lookAtSigns();
            System.out.println(rules.wrong == 0 ? "the source keeps to the rules" : rules.wrong + " faults");
            if (rules.wrong != 0) {
                System.exit(1);
            }
        }
    }
}
