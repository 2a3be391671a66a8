import com.sun.source.tree.BinaryTree;
import com.sun.source.tree.BlockTree;
import com.sun.source.tree.ClassTree;
import com.sun.source.tree.CompilationUnitTree;
import com.sun.source.tree.ImportTree;
import com.sun.source.tree.MethodInvocationTree;
import com.sun.source.tree.MethodTree;
import com.sun.source.tree.NewArrayTree;
import com.sun.source.tree.NewClassTree;
import com.sun.source.tree.Tree;
import com.sun.source.tree.VariableTree;
import com.sun.source.util.JavacTask;
import com.sun.source.util.SourcePositions;
import com.sun.source.util.TreePath;
import com.sun.source.util.TreePathScanner;
import com.sun.source.util.Trees;
import java.io.File;
import java.io.IOException;
import java.util.EnumSet;
import java.util.HashMap;
import java.util.LinkedHashSet;
import java.util.List;
import java.util.Map;
import java.util.Set;
import javax.lang.model.element.Element;
import javax.lang.model.element.Modifier;
import javax.lang.model.type.TypeKind;
import javax.tools.JavaCompiler;
import javax.tools.StandardJavaFileManager;
import javax.tools.ToolProvider;

/** What of LANGUAGE.md can be told from the source: run from the project's folder. */
public final class LanguageTest extends TreePathScanner<Void, Void> {
    private static final String SOURCE = "src/main/java/SevenInTheHay.java";
    private static final Set<Tree.Kind> RULED_OUT = EnumSet.of(
        Tree.Kind.THROW, Tree.Kind.TRY, Tree.Kind.CATCH, Tree.Kind.SYNCHRONIZED, Tree.Kind.ASSERT,
        Tree.Kind.LAMBDA_EXPRESSION, Tree.Kind.MEMBER_REFERENCE, Tree.Kind.SWITCH_EXPRESSION);
    private static final Set<String> LIBRARY = Set.of(
        "java.lang.Math", "java.lang.String", "java.lang.System", "java.util.Arrays", "java.lang.Object");

    private final Trees trees;
    private final CompilationUnitTree unit;
    private final Map<Element, Set<Element>> calls = new HashMap<>();
    private int classes;

    private LanguageTest(Trees trees, CompilationUnitTree unit) {
        this.trees = trees;
        this.unit = unit;
    }

    public static void main(String[] args) throws IOException {
        JavaCompiler compiler = ToolProvider.getSystemJavaCompiler();
        try (StandardJavaFileManager files = compiler.getStandardFileManager(null, null, null)) {
            JavacTask task = (JavacTask) compiler.getTask(
                null, files, null, List.of("-proc:none"), null, files.getJavaFileObjects(new File(SOURCE)));
            CompilationUnitTree unit = task.parse().iterator().next();
            task.analyze();
            LanguageTest test = new LanguageTest(Trees.instance(task), unit);
            test.scan(unit, null);
            test.depths();
        }
        Check.end();
    }

    private String where(Tree tree) {
        long start = trees.getSourcePositions().getStartPosition(unit, tree);
        return "line " + unit.getLineMap().getLineNumber(start) + ": ";
    }

    private Element inner(Tree.Kind kind) {
        for (TreePath path = getCurrentPath(); path != null; path = path.getParentPath()) {
            if (path.getLeaf().getKind() == kind) {
                return trees.getElement(path);
            }
        }
        return null;
    }

    @Override
    public Void scan(Tree tree, Void v) {
        if (tree != null) {
            Check.isTrue(where(tree) + "no " + tree.getKind(), !RULED_OUT.contains(tree.getKind()));
        }
        return super.scan(tree, v);
    }

    @Override
    public Void visitImport(ImportTree tree, Void v) {
        String name = tree.getQualifiedIdentifier().toString();
        Check.isTrue(where(tree) + name, List.of("java.util.Arrays", "java.util.ArrayList", "java.util.List").contains(name));
        return super.visitImport(tree, v);
    }

    @Override
    public Void visitClass(ClassTree tree, Void v) {
        classes++;
        Check.isTrue(where(tree) + "12 classes at most", classes <= 12);
        int fields = 0;
        for (Tree member : tree.getMembers()) {
            if (member instanceof VariableTree field) {
                Set<Modifier> modifiers = field.getModifiers().getFlags();
                boolean isStatic = modifiers.contains(Modifier.STATIC);
                Check.isTrue(where(field) + "static, so final", !isStatic || modifiers.contains(Modifier.FINAL));
                fields += isStatic ? 0 : 1;
            }
            Check.isTrue(where(member) + "no initialiser block", !(member instanceof BlockTree));
        }
        Check.isTrue(where(tree) + "20 fields at most", fields <= 20);
        return super.visitClass(tree, v);
    }

    @Override
    public Void visitMethod(MethodTree tree, Void v) {
        SourcePositions at = trees.getSourcePositions();
        long lines = unit.getLineMap().getLineNumber(at.getEndPosition(unit, tree))
            - unit.getLineMap().getLineNumber(at.getStartPosition(unit, tree)) + 1;
        Check.isTrue(where(tree) + "60 lines at most", lines <= 60);
        Check.isTrue(where(tree) + "7 parameters at most", tree.getParameters().size() <= 7);
        calls.computeIfAbsent(trees.getElement(getCurrentPath()), e -> new LinkedHashSet<>());
        return super.visitMethod(tree, v);
    }

    @Override
    public Void visitMethodInvocation(MethodInvocationTree tree, Void v) {
        Element called = trees.getElement(new TreePath(getCurrentPath(), tree.getMethodSelect()));
        String owner = called.getEnclosingElement().toString();
        boolean isOwn = owner.startsWith("SevenInTheHay");
        Check.isTrue(where(tree) + owner + " is of the library", isOwn || LIBRARY.contains(owner));
        Check.isTrue(where(tree) + "not Exact", !called.getSimpleName().toString().endsWith("Exact"));
        if (isOwn) {
            calls.get(inner(Tree.Kind.METHOD)).add(called);
        }
        return super.visitMethodInvocation(tree, v);
    }

    // All rows and objects are made with the object: no call makes one.
    @Override
    public Void visitNewClass(NewClassTree tree, Void v) {
        Check.isTrue(where(tree) + "no class body", tree.getClassBody() == null);
        Check.isTrue(where(tree) + "made with the object", isMadeWithObject());
        return super.visitNewClass(tree, v);
    }

    @Override
    public Void visitNewArray(NewArrayTree tree, Void v) {
        Check.isTrue(where(tree) + "made with the object", isMadeWithObject());
        return super.visitNewArray(tree, v);
    }

    private boolean isMadeWithObject() {
        Element method = inner(Tree.Kind.METHOD);
        return method == null || method.getSimpleName().contentEquals("<init>");
    }

    @Override
    public Void visitBinary(BinaryTree tree, Void v) {
        for (Tree side : List.of(tree.getLeftOperand(), tree.getRightOperand())) {
            TypeKind kind = trees.getTypeMirror(new TreePath(getCurrentPath(), side)).getKind();
            boolean isPlus = tree.getKind() == Tree.Kind.PLUS;
            Check.isTrue(where(tree) + "no texts joined by +", !isPlus || kind.isPrimitive());
        }
        return super.visitBinary(tree, v);
    }

    private void depths() {
        for (Element method : calls.keySet()) {
            int depth = depth(method, 1);
            Check.isTrue(method + " goes " + depth + " deep", depth <= 8);
        }
    }

    private int depth(Element method, int ahead) {
        if (ahead > 20) {
            return ahead;
        }
        int most = 1;
        for (Element called : calls.getOrDefault(method, Set.of())) {
            most = Math.max(most, 1 + depth(called, ahead + 1));
        }
        return most;
    }
}
