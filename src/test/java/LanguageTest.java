import com.sun.source.tree.BinaryTree;
import com.sun.source.tree.ClassTree;
import com.sun.source.tree.CompilationUnitTree;
import com.sun.source.tree.LambdaExpressionTree;
import com.sun.source.tree.LineMap;
import com.sun.source.tree.LiteralTree;
import com.sun.source.tree.MemberReferenceTree;
import com.sun.source.tree.MethodInvocationTree;
import com.sun.source.tree.MethodTree;
import com.sun.source.tree.NewArrayTree;
import com.sun.source.tree.NewClassTree;
import com.sun.source.tree.ThrowTree;
import com.sun.source.tree.Tree;
import com.sun.source.tree.TryTree;
import com.sun.source.tree.TypeCastTree;
import com.sun.source.tree.VariableTree;
import com.sun.source.util.JavacTask;
import com.sun.source.util.TreePath;
import com.sun.source.util.TreePathScanner;
import com.sun.source.util.Trees;
import java.io.IOException;
import java.util.HashMap;
import java.util.LinkedHashMap;
import java.util.LinkedHashSet;
import java.util.List;
import java.util.Map;
import java.util.Set;
import javax.lang.model.element.Element;
import javax.lang.model.element.ElementKind;
import javax.lang.model.element.Modifier;
import javax.lang.model.type.ArrayType;
import javax.lang.model.type.TypeKind;
import javax.lang.model.type.TypeMirror;
import javax.tools.JavaCompiler;
import javax.tools.StandardJavaFileManager;
import javax.tools.ToolProvider;

/** The rules of LANGUAGE.md that can be seen in the program's tree, as the compiler reads it. */
public final class LanguageTest extends TreePathScanner<Void, Void> {
    private static final int LINES_MOST = 60;
    private static final int PARAMETERS_MOST = 7;
    private static final int DEPTH_MOST = 8;
    private static final int CLASSES_MOST = 12;
    private static final Set<String> EXCEPTIONS = Set.of("IllegalStateException", "IllegalArgumentException",
        "IndexOutOfBoundsException", "ArithmeticException", "UnsupportedOperationException", "NoSuchElementException",
        "RuntimeException");
    private static final Set<String> LIBRARY = Set.of("java.lang.Math", "java.lang.Integer", "java.lang.Long");

    private final Trees trees;
    private final CompilationUnitTree unit;
    /** Of each method or constructor those that it calls, the library's too. */
    private final Map<Element, Set<Element>> calls = new LinkedHashMap<>();
    private final Map<Element, Integer> depths = new HashMap<>();
    private final Set<Element> open = new LinkedHashSet<>();
    private int classes;

    private LanguageTest(Trees trees, CompilationUnitTree unit) {
        this.trees = trees;
        this.unit = unit;
    }

    public static void main(String[] args) throws IOException {
        JavaCompiler compiler = ToolProvider.getSystemJavaCompiler();
        try (StandardJavaFileManager files = compiler.getStandardFileManager(null, null, null)) {
            JavacTask task = (JavacTask) compiler.getTask(null, files, null, List.of("-proc:none"), null,
                files.getJavaFileObjects("src/main/java/OrderedWorks.java"));
            CompilationUnitTree unit = task.parse().iterator().next();
            task.analyze();
            LanguageTest test = new LanguageTest(Trees.instance(task), unit);
            test.scan(new TreePath(unit), null);
            test.wholes();
        }
        Check.end();
    }

    private void wholes() {
        Check.yes("rule 4: no import", unit.getImports().isEmpty());
        Check.yes("no package", unit.getPackage() == null);
        Check.due("one class beside those inside it", unit.getTypeDecls().size(), 1);
        Check.yes("rule 11: some twelve classes, not " + classes, classes <= CLASSES_MOST);
        for (Element method : calls.keySet()) {
            int depth = depth(method);
            Check.yes("rule 11: " + method + " goes " + depth + " deep", depth <= DEPTH_MOST);
        }
    }

    /** How many calls stand open at once at most, itself and the library's among them. */
    private int depth(Element method) {
        if (depths.containsKey(method)) {
            return depths.get(method);
        }
        if (!open.add(method)) {
            Check.fault("rule 8: a recursion through " + method);
            return 0;
        }
        int deepest = 0;
        for (Element called : calls.getOrDefault(method, Set.of())) {
            deepest = Math.max(deepest, depth(called));
        }
        open.remove(method);
        depths.put(method, deepest + 1);
        return deepest + 1;
    }

    /** The method or constructor that the place stands in; null in a field's initialiser. */
    private Element around() {
        for (TreePath path = getCurrentPath(); path != null; path = path.getParentPath()) {
            if (path.getLeaf() instanceof MethodTree) {
                return trees.getElement(path);
            }
        }
        return null;
    }

    private boolean inConstructor() {
        Element around = around();
        return around == null || around.getKind() == ElementKind.CONSTRUCTOR;
    }

    private String place(Tree tree) {
        return "line " + line(trees.getSourcePositions().getStartPosition(unit, tree));
    }

    private long line(long position) {
        LineMap lines = unit.getLineMap();
        return lines.getLineNumber(position);
    }

    private void note(Element called) {
        Element around = around();
        if (around != null && called != null) {
            calls.computeIfAbsent(around, key -> new LinkedHashSet<>()).add(called);
        }
    }

    @Override
    public Void visitClass(ClassTree tree, Void none) {
        classes++;
        boolean inside = getCurrentPath().getParentPath().getLeaf() instanceof ClassTree;
        boolean outermost = getCurrentPath().getParentPath().getLeaf() instanceof CompilationUnitTree;
        Check.yes("rule 2: no local class, " + place(tree), inside || outermost);
        Check.yes("rule 1: static, " + place(tree), outermost || tree.getModifiers().getFlags().contains(Modifier.STATIC));
        return super.visitClass(tree, none);
    }

    @Override
    public Void visitMethod(MethodTree tree, Void none) {
        Element method = trees.getElement(getCurrentPath());
        if (trees.getSourcePositions().getEndPosition(unit, tree) >= 0) {
            calls.computeIfAbsent(method, key -> new LinkedHashSet<>());
            long first = line(trees.getSourcePositions().getStartPosition(unit, tree));
            long last = line(trees.getSourcePositions().getEndPosition(unit, tree));
            Check.yes("rule 11: short, " + place(tree), last - first < LINES_MOST);
            Check.yes("rule 11: parameters, " + place(tree), tree.getParameters().size() <= PARAMETERS_MOST);
        }
        return super.visitMethod(tree, none);
    }

    @Override
    public Void visitVariable(VariableTree tree, Void none) {
        Element variable = trees.getElement(getCurrentPath());
        Check.yes("rule 3: its type, " + place(tree), isAllowed(variable.asType()));
        if (variable.getModifiers().contains(Modifier.STATIC)) {
            boolean constant = variable.getModifiers().contains(Modifier.FINAL) && variable.asType().getKind().isPrimitive();
            Check.yes("rule 5: a constant, " + place(tree), constant);
        }
        return super.visitVariable(tree, none);
    }

    private static boolean isAllowed(TypeMirror type) {
        if (type.getKind() == TypeKind.ARRAY) {
            TypeMirror of = ((ArrayType) type).getComponentType();
            return of.getKind() != TypeKind.ARRAY && isAllowed(of);
        }
        boolean real = type.getKind() == TypeKind.DOUBLE || type.getKind() == TypeKind.FLOAT;
        return type.getKind().isPrimitive() && !real || type.toString().startsWith("OrderedWorks");
    }

    @Override
    public Void visitMethodInvocation(MethodInvocationTree tree, Void none) {
        Element called = trees.getElement(getCurrentPath());
        String owner = called.getEnclosingElement().toString();
        String name = called.getSimpleName().toString();
        boolean root = owner.equals("java.lang.Object") && name.equals("<init>");
        if (!root) {
            boolean own = owner.startsWith("OrderedWorks");
            Check.yes("rule 4: " + owner + "." + name, own || LIBRARY.contains(owner) && !name.endsWith("Exact"));
            note(called);
        }
        return super.visitMethodInvocation(tree, none);
    }

    @Override
    public Void visitNewClass(NewClassTree tree, Void none) {
        boolean thrown = getCurrentPath().getParentPath().getLeaf() instanceof ThrowTree;
        Element around = around();
        boolean request = around != null && around.getSimpleName().contentEquals("request");
        Check.yes("rows are made in constructors, " + place(tree), thrown || request || inConstructor());
        Check.yes("rule 2: no body of its own, " + place(tree), tree.getClassBody() == null);
        if (!thrown) {
            note(trees.getElement(getCurrentPath()));
        }
        return super.visitNewClass(tree, none);
    }

    @Override
    public Void visitNewArray(NewArrayTree tree, Void none) {
        Check.yes("rows are made in constructors, " + place(tree), inConstructor());
        return super.visitNewArray(tree, none);
    }

    @Override
    public Void visitThrow(ThrowTree tree, Void none) {
        Check.yes("rule 6: none in a constructor, " + place(tree), !inConstructor());
        boolean fine = false;
        if (tree.getExpression() instanceof NewClassTree) {
            NewClassTree made = (NewClassTree) tree.getExpression();
            boolean text = made.getArguments().isEmpty()
                || made.getArguments().size() == 1 && made.getArguments().get(0) instanceof LiteralTree;
            fine = text && EXCEPTIONS.contains(made.getIdentifier().toString());
        }
        Check.yes("rule 6: a new exception with a written text, " + place(tree), fine);
        return super.visitThrow(tree, none);
    }

    @Override
    public Void visitBinary(BinaryTree tree, Void none) {
        TypeMirror type = trees.getTypeMirror(getCurrentPath());
        Check.yes("rule 10: numbers alone, " + place(tree), type.getKind().isPrimitive());
        return super.visitBinary(tree, none);
    }

    @Override
    public Void visitTypeCast(TypeCastTree tree, Void none) {
        TypeMirror type = trees.getTypeMirror(getCurrentPath());
        Check.yes("rule 6: no cast that can fail, " + place(tree), type.getKind().isPrimitive());
        return super.visitTypeCast(tree, none);
    }

    @Override
    public Void visitTry(TryTree tree, Void none) {
        Check.fault("no try is needed, " + place(tree));
        return super.visitTry(tree, none);
    }

    @Override
    public Void visitLambdaExpression(LambdaExpressionTree tree, Void none) {
        Check.fault("rule 2: a lambda, " + place(tree));
        return super.visitLambdaExpression(tree, none);
    }

    @Override
    public Void visitMemberReference(MemberReferenceTree tree, Void none) {
        Check.fault("rule 2: a method reference, " + place(tree));
        return super.visitMemberReference(tree, none);
    }
}
