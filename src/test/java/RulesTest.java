import com.sun.source.tree.BinaryTree;
import com.sun.source.tree.BlockTree;
import com.sun.source.tree.ClassTree;
import com.sun.source.tree.CompilationUnitTree;
import com.sun.source.tree.ImportTree;
import com.sun.source.tree.LineMap;
import com.sun.source.tree.MethodInvocationTree;
import com.sun.source.tree.MethodTree;
import com.sun.source.tree.NewClassTree;
import com.sun.source.tree.ThrowTree;
import com.sun.source.tree.Tree;
import com.sun.source.tree.TryTree;
import com.sun.source.tree.VariableTree;
import com.sun.source.util.JavacTask;
import com.sun.source.util.SourcePositions;
import com.sun.source.util.TreePath;
import com.sun.source.util.TreePathScanner;
import com.sun.source.util.Trees;
import java.io.File;
import java.io.IOException;
import java.util.ArrayList;
import java.util.HashMap;
import java.util.HashSet;
import java.util.List;
import java.util.Map;
import java.util.Set;
import javax.lang.model.element.Element;
import javax.lang.model.element.ElementKind;
import javax.lang.model.element.Modifier;
import javax.tools.JavaCompiler;
import javax.tools.StandardJavaFileManager;
import javax.tools.ToolProvider;

/** The rules of LANGUAGE.md that can be seen in the source: its size, its library, its calls. */
public final class RulesTest extends TreePathScanner<Void, Void> {
    private static final Check CHECK = new Check("RulesTest");
    private static final Set<Tree.Kind> REFUSED = Set.of(Tree.Kind.LAMBDA_EXPRESSION, Tree.Kind.MEMBER_REFERENCE,
        Tree.Kind.SYNCHRONIZED, Tree.Kind.ASSERT, Tree.Kind.SWITCH_EXPRESSION, Tree.Kind.UNION_TYPE);
    private static final Set<String> LIBRARY = Set.of("Math.max", "Math.min", "System.arraycopy", "Arrays.fill",
        "StringBuilder.append", "AbstractStringBuilder.length", "AbstractStringBuilder.charAt", "Object.<init>", "StringBuilder.<init>",
        "NoSuchElementException.<init>");

    private final Trees trees;
    private final SourcePositions places;
    private final CompilationUnitTree unit;
    private final LineMap lines;
    private final Map<Element, Set<Element>> calls = new HashMap<>();
    private final List<String> classes = new ArrayList<>();
    private Element method = null;

    private RulesTest(Trees trees, CompilationUnitTree unit) {
        this.trees = trees;
        this.unit = unit;
        places = trees.getSourcePositions();
        lines = unit.getLineMap();
    }

    public static void main(String[] args) throws IOException {
        JavaCompiler compiler = ToolProvider.getSystemJavaCompiler();
        StandardJavaFileManager files = compiler.getStandardFileManager(null, null, null);
        JavacTask task = (JavacTask) compiler.getTask(null, files, null, List.of("-proc:none"), null,
            files.getJavaFileObjects(new File("src/main/java/OuterRows.java")));
        CompilationUnitTree unit = task.parse().iterator().next();
        task.analyze();
        RulesTest test = new RulesTest(Trees.instance(task), unit);
        CHECK.due("a package line", unit.getPackageName() != null, false);
        test.scan(unit, null);
        test.checkDepths();
        CHECK.due("at most twelve classes", test.classes.size() <= 12, true);
        CHECK.end();
    }

    @Override
    public Void scan(Tree tree, Void none) {
        if (tree != null) {
            CHECK.due(tree.getKind() + " at line " + lineOf(tree) + " is refused", REFUSED.contains(tree.getKind()), false);
        }
        return super.scan(tree, none);
    }

    private long lineOf(Tree tree) {
        long start = places.getStartPosition(unit, tree);
        return start < 0 ? -1 : lines.getLineNumber(start);
    }

    @Override
    public Void visitImport(ImportTree tree, Void none) {
        String name = tree.getQualifiedIdentifier().toString();
        CHECK.due("import of " + name, Set.of("java.util.Arrays", "java.util.NoSuchElementException").contains(name), true);
        return null;
    }

    @Override
    public Void visitClass(ClassTree tree, Void none) {
        classes.add(tree.getSimpleName().toString());
        int fields = 0;
        for (Tree member : tree.getMembers()) {
            if (member instanceof VariableTree field) {
                Set<Modifier> flags = field.getModifiers().getFlags();
                boolean isStatic = flags.contains(Modifier.STATIC);
                fields += isStatic ? 0 : 1;
                CHECK.due(field.getName() + " is static, and not final", isStatic && !flags.contains(Modifier.FINAL), false);
            }
            CHECK.due("an initialiser block at line " + lineOf(member), member instanceof BlockTree, false);
        }
        CHECK.due("at most twenty fields of " + tree.getSimpleName(), fields <= 20, true);
        return super.visitClass(tree, none);
    }

    @Override
    public Void visitMethod(MethodTree tree, Void none) {
        method = trees.getElement(getCurrentPath());
        calls.putIfAbsent(method, new HashSet<>());
        long start = places.getStartPosition(unit, tree);
        long end = places.getEndPosition(unit, tree);
        long length = lines.getLineNumber(end) - lines.getLineNumber(start) + 1;
        CHECK.due(tree.getName() + " is at most sixty lines long", length <= 60, true);
        CHECK.due(tree.getName() + " has at most seven parameters", tree.getParameters().size() <= 7, true);
        return super.visitMethod(tree, none);
    }

    @Override
    public Void visitTry(TryTree tree, Void none) {
        CHECK.due("try at line " + lineOf(tree), 1, 0);
        return super.visitTry(tree, none);
    }

    /** single() alone throws: rule 6 asks for exactly what the document says, and says nothing of another. */
    @Override
    public Void visitThrow(ThrowTree tree, Void none) {
        CHECK.due("throw at line " + lineOf(tree) + " stands in single()", method.getSimpleName().contentEquals("single"), true);
        CHECK.due("throw at line " + lineOf(tree), typeOf(tree.getExpression()), "java.util.NoSuchElementException");
        return super.visitThrow(tree, none);
    }

    /** Texts aren't joined by +, nor compared by == and !=. */
    @Override
    public Void visitBinary(BinaryTree tree, Void none) {
        boolean hasText = isText(tree.getLeftOperand()) || isText(tree.getRightOperand());
        CHECK.due(tree.getKind() + " of texts at line " + lineOf(tree), hasText, false);
        return super.visitBinary(tree, none);
    }

    private boolean isText(Tree tree) {
        return Set.of("java.lang.String", "java.lang.Integer").contains(typeOf(tree));
    }

    private String typeOf(Tree tree) {
        return String.valueOf(trees.getTypeMirror(new TreePath(getCurrentPath(), tree)));
    }

    @Override
    public Void visitMethodInvocation(MethodInvocationTree tree, Void none) {
        noteCall(trees.getElement(getCurrentPath()), tree);
        return super.visitMethodInvocation(tree, none);
    }

    @Override
    public Void visitNewClass(NewClassTree tree, Void none) {
        noteCall(trees.getElement(getCurrentPath()), tree);
        return super.visitNewClass(tree, none);
    }

    private void noteCall(Element called, Tree tree) {
        String owner = called.getEnclosingElement().getSimpleName().toString();
        boolean isOwn = owner.equals("OuterRows") || classes.contains(owner) || isInside(called);
        if (isOwn) {
            if (method != null) {
                calls.get(method).add(called);
            }
            return;
        }
        String name = owner + "." + called.getSimpleName();
        CHECK.due("line " + lineOf(tree) + " calls " + name, LIBRARY.contains(name), true);
        if (name.equals("Arrays.fill")) {
            CHECK.due("Arrays.fill over numbers at line " + lineOf(tree), called.toString().contains("boolean"), false);
        }
    }

    private static boolean isInside(Element called) {
        Element around = called.getEnclosingElement().getEnclosingElement();
        return around != null && around.getKind() == ElementKind.CLASS && around.getSimpleName().contentEquals("OuterRows");
    }

    private void checkDepths() {
        for (Element from : calls.keySet()) {
            int depth = depthOf(from, new HashSet<>());
            CHECK.due(from + " goes at most eight calls deep (" + depth + ")", depth <= 8, true);
        }
    }

    private int depthOf(Element from, Set<Element> open) {
        if (!open.add(from)) {
            CHECK.due(from + " calls itself", 1, 0);
            return 0;
        }
        int deepest = 0;
        for (Element called : calls.getOrDefault(from, Set.of())) {
            deepest = Math.max(deepest, depthOf(called, open));
        }
        open.remove(from);
        return deepest + 1;
    }
}
