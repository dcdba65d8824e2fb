import com.sun.source.tree.AssertTree;
import com.sun.source.tree.BinaryTree;
import com.sun.source.tree.BlockTree;
import com.sun.source.tree.ClassTree;
import com.sun.source.tree.CompilationUnitTree;
import com.sun.source.tree.CompoundAssignmentTree;
import com.sun.source.tree.DoWhileLoopTree;
import com.sun.source.tree.ForLoopTree;
import com.sun.source.tree.LambdaExpressionTree;
import com.sun.source.tree.MemberReferenceTree;
import com.sun.source.tree.MethodInvocationTree;
import com.sun.source.tree.MethodTree;
import com.sun.source.tree.NewArrayTree;
import com.sun.source.tree.NewClassTree;
import com.sun.source.tree.SynchronizedTree;
import com.sun.source.tree.ThrowTree;
import com.sun.source.tree.Tree;
import com.sun.source.tree.TryTree;
import com.sun.source.tree.TypeCastTree;
import com.sun.source.tree.VariableTree;
import com.sun.source.tree.WhileLoopTree;
import com.sun.source.util.JavacTask;
import com.sun.source.util.TreePath;
import com.sun.source.util.TreePathScanner;
import com.sun.source.util.Trees;
import java.io.IOException;
import java.nio.file.Path;
import java.util.HashSet;
import java.util.List;
import java.util.Map;
import java.util.Set;
import java.util.TreeMap;
import java.util.TreeSet;
import javax.lang.model.element.Element;
import javax.lang.model.element.ExecutableElement;
import javax.lang.model.element.Modifier;
import javax.lang.model.type.ArrayType;
import javax.lang.model.type.TypeKind;
import javax.lang.model.type.TypeMirror;
import javax.tools.JavaCompiler;
import javax.tools.StandardJavaFileManager;
import javax.tools.ToolProvider;

/** The rules of LANGUAGE.md that can be seen in the class as the compiler reads it. */
final class LanguageTreeTest extends TreePathScanner<Void, Void> {
    private static final Path SOURCE = Path.of("src/main/java/BiteChild.java");
    private static final int MOST_LINES = 60;
    private static final int DEEPEST = 8;
    /** Rule 4, beside the functions of Math, Integer and Long that do not end in Exact. */
    private static final Set<String> LIBRARY = Set.of("java.lang.String.length", "java.lang.String.charAt",
        "java.lang.String.isEmpty", "java.lang.String.equals", "java.lang.String.indexOf", "java.lang.String.substring",
        "java.lang.String.toCharArray", "java.lang.System.arraycopy", "java.util.Arrays.copyOf",
        "java.util.Arrays.copyOfRange", "java.util.Arrays.fill");
    private static final Set<String> FUNCTIONS_OF = Set.of("java.lang.Math", "java.lang.Integer", "java.lang.Long");
    private static final Check check = new Check();

    private final Trees trees;
    private final CompilationUnitTree unit;
    private final Map<String, Set<String>> calls = new TreeMap<>();
    private final Set<String> callThemselves = new TreeSet<>();
    private String method = "";
    private boolean inConstructor;

    private LanguageTreeTest(Trees trees, CompilationUnitTree unit) {
        this.trees = trees;
        this.unit = unit;
    }

    public static void main(String[] args) throws IOException {
        JavaCompiler javac = ToolProvider.getSystemJavaCompiler();
        try (StandardJavaFileManager files = javac.getStandardFileManager(null, null, null)) {
            JavacTask task = (JavacTask) javac.getTask(null, files, null, List.of("-proc:none"), null,
                files.getJavaFileObjects(SOURCE));
            CompilationUnitTree unit = task.parse().iterator().next();
            task.analyze();
            LanguageTreeTest test = new LanguageTreeTest(Trees.instance(task), unit);
            test.scan(unit, null);
            test.callGraph();
        }
        check.end();
    }

    private long lineOf(Tree tree) {
        return unit.getLineMap().getLineNumber(trees.getSourcePositions().getStartPosition(unit, tree));
    }

    private void rule(int number, String what, Tree tree, boolean so) {
        check.holds("rule " + number + ", line " + lineOf(tree) + ": " + what, so);
    }

    private TypeMirror typeOf(Tree tree) {
        return trees.getTypeMirror(new TreePath(getCurrentPath(), tree));
    }

    private static boolean isText(TypeMirror type) {
        return type != null && type.toString().equals("java.lang.String");
    }

    // ---- rule 2, rule 5: classes, fields

    @Override public Void visitClass(ClassTree tree, Void nothing) {
        rule(2, "no local or anonymous class", tree, method.isEmpty());
        for (Tree member : tree.getMembers()) {
            rule(5, "no initialiser block", member, !(member instanceof BlockTree));
        }
        return super.visitClass(tree, nothing);
    }

    @Override public Void visitLambdaExpression(LambdaExpressionTree tree, Void nothing) {
        rule(2, "no lambda", tree, false);
        return null;
    }

    @Override public Void visitMemberReference(MemberReferenceTree tree, Void nothing) {
        rule(2, "no method reference", tree, false);
        return null;
    }

    @Override public Void visitVariable(VariableTree tree, Void nothing) {
        TypeMirror type = trees.getTypeMirror(getCurrentPath());
        rule(3, "type " + type, tree, isAllowed(type));
        if (tree.getModifiers().getFlags().contains(Modifier.STATIC)) {
            rule(5, "static and final", tree, tree.getModifiers().getFlags().contains(Modifier.FINAL));
            rule(5, "a constant", tree, type.getKind().isPrimitive() || isText(type) || type.getKind() == TypeKind.ARRAY);
        }
        return super.visitVariable(tree, nothing);
    }

    private static boolean isAllowed(TypeMirror type) {
        boolean own = type.toString().startsWith("BiteChild");
        if (type.getKind() != TypeKind.ARRAY) {
            return type.getKind().isPrimitive() || own || isText(type);
        }
        TypeMirror part = ((ArrayType) type).getComponentType();
        boolean twice = part.getKind() == TypeKind.ARRAY;
        TypeMirror last = twice ? ((ArrayType) part).getComponentType() : part;
        return last.getKind().isPrimitive() || (!twice && last.toString().startsWith("BiteChild"));
    }

    // ---- rule 6: what is not there at all

    @Override public Void visitThrow(ThrowTree tree, Void nothing) {
        rule(6, "no throw", tree, false);
        return null;
    }

    @Override public Void visitTry(TryTree tree, Void nothing) {
        rule(6, "no try", tree, false);
        return null;
    }

    @Override public Void visitSynchronized(SynchronizedTree tree, Void nothing) {
        rule(6, "no synchronized", tree, false);
        return null;
    }

    @Override public Void visitAssert(AssertTree tree, Void nothing) {
        rule(6, "no assert", tree, false);
        return null;
    }

    @Override public Void visitTypeCast(TypeCastTree tree, Void nothing) {
        rule(6, "casts of numbers alone", tree, typeOf(tree.getType()).getKind().isPrimitive());
        return super.visitTypeCast(tree, nothing);
    }

    @Override public Void visitBinary(BinaryTree tree, Void nothing) {
        boolean texts = isText(typeOf(tree.getLeftOperand())) || isText(typeOf(tree.getRightOperand()));
        rule(10, "no text is joined by + nor held against another by ==", tree, !texts);
        return super.visitBinary(tree, nothing);
    }

    @Override public Void visitCompoundAssignment(CompoundAssignmentTree tree, Void nothing) {
        rule(10, "no text is joined by +=", tree, !isText(typeOf(tree.getVariable())));
        return super.visitCompoundAssignment(tree, nothing);
    }

    // ---- rule 9: loops that end

    @Override public Void visitForLoop(ForLoopTree tree, Void nothing) {
        rule(9, "a for with a bound and a step", tree, tree.getCondition() != null && !tree.getUpdate().isEmpty());
        return super.visitForLoop(tree, nothing);
    }

    @Override public Void visitWhileLoop(WhileLoopTree tree, Void nothing) {
        String condition = tree.getCondition().toString();
        rule(9, "a while with a bound", tree, condition.contains(" < ") || condition.contains(" > "));
        return super.visitWhileLoop(tree, nothing);
    }

    @Override public Void visitDoWhileLoop(DoWhileLoopTree tree, Void nothing) {
        String condition = tree.getCondition().toString();
        rule(9, "a do with a bound", tree, condition.contains(" < ") || condition.contains(" > "));
        return super.visitDoWhileLoop(tree, nothing);
    }

    // ---- rule 11, rule 12: methods, what they make

    @Override public Void visitMethod(MethodTree tree, Void nothing) {
        ExecutableElement element = (ExecutableElement) trees.getElement(getCurrentPath());
        method = element.getEnclosingElement() + "." + element.getSimpleName();
        inConstructor = element.getSimpleName().contentEquals("<init>");
        calls.computeIfAbsent(method, m -> new TreeSet<>());
        long end = trees.getSourcePositions().getEndPosition(unit, tree);
        if (end > 0) {
            rule(11, "a short method", tree, unit.getLineMap().getLineNumber(end) - lineOf(tree) < MOST_LINES);
        }
        rule(11, "seven parameters at most", tree, tree.getParameters().size() <= 7);
        rule(6, "throws nothing", tree, tree.getThrows().isEmpty());
        super.visitMethod(tree, nothing);
        method = "";
        inConstructor = false;
        return null;
    }

    @Override public Void visitNewClass(NewClassTree tree, Void nothing) {
        rule(12, "objects are made by constructors alone", tree, inConstructor);
        rule(2, "no class without a name", tree, tree.getClassBody() == null);
        rule(3, "objects of own classes alone", tree, typeOf(tree).toString().startsWith("BiteChild."));
        return super.visitNewClass(tree, nothing);
    }

    @Override public Void visitNewArray(NewArrayTree tree, Void nothing) {
        rule(12, "rows are made by constructors alone", tree, inConstructor);
        return super.visitNewArray(tree, nothing);
    }

    // ---- rule 4, rule 8: what is called

    @Override public Void visitMethodInvocation(MethodInvocationTree tree, Void nothing) {
        Element called = trees.getElement(new TreePath(getCurrentPath(), tree.getMethodSelect()));
        String owner = called.getEnclosingElement().toString();
        String name = owner + "." + called.getSimpleName();
        if (owner.startsWith("BiteChild")) {
            if (name.equals(method)) {
                callThemselves.add(name);
                rule(8, "what calls itself is private and static", tree, called.getModifiers().contains(Modifier.PRIVATE)
                    && called.getModifiers().contains(Modifier.STATIC));
            } else {
                calls.get(method).add(name);
            }
        } else if (!name.equals("java.lang.Object.<init>")) {
            boolean function = FUNCTIONS_OF.contains(owner) && called.getModifiers().contains(Modifier.STATIC)
                && !name.endsWith("Exact");
            rule(4, "the library's " + name, tree, function || LIBRARY.contains(name));
        }
        return super.visitMethodInvocation(tree, nothing);
    }

    private void callGraph() {
        check.holds("the class was read", calls.size() > 60);
        check.due("methods that call themselves: " + callThemselves, callThemselves.size(), 1);
        for (String from : calls.keySet()) {
            int depth = depth(from, new HashSet<>());
            check.holds("rule 11: calls " + depth + " deep from " + from, depth <= DEEPEST);
        }
    }

    /** How many calls stand open at once; more than all there are, if they go round. */
    private int depth(String from, Set<String> open) {
        if (!open.add(from)) {
            return calls.size() + 1;
        }
        int deepest = 0;
        for (String to : calls.getOrDefault(from, Set.of())) {
            deepest = Math.max(deepest, depth(to, open));
        }
        open.remove(from);
        return deepest + 1;
    }
}
