import com.sun.source.tree.AssertTree;
import com.sun.source.tree.BinaryTree;
import com.sun.source.tree.ClassTree;
import com.sun.source.tree.CompilationUnitTree;
import com.sun.source.tree.DoWhileLoopTree;
import com.sun.source.tree.ForLoopTree;
import com.sun.source.tree.ImportTree;
import com.sun.source.tree.LambdaExpressionTree;
import com.sun.source.tree.LiteralTree;
import com.sun.source.tree.MemberReferenceTree;
import com.sun.source.tree.MethodInvocationTree;
import com.sun.source.tree.MethodTree;
import com.sun.source.tree.NewClassTree;
import com.sun.source.tree.SynchronizedTree;
import com.sun.source.tree.ThrowTree;
import com.sun.source.tree.Tree;
import com.sun.source.tree.TryTree;
import com.sun.source.tree.VariableTree;
import com.sun.source.tree.WhileLoopTree;
import com.sun.source.util.JavacTask;
import com.sun.source.util.TreePath;
import com.sun.source.util.TreePathScanner;
import com.sun.source.util.Trees;
import java.io.File;
import java.io.IOException;
import java.util.List;
import java.util.Map;
import java.util.Set;
import java.util.TreeMap;
import java.util.TreeSet;
import javax.lang.model.element.Element;
import javax.lang.model.element.ElementKind;
import javax.lang.model.element.ExecutableElement;
import javax.lang.model.element.Modifier;
import javax.lang.model.type.ArrayType;
import javax.lang.model.type.TypeMirror;
import javax.tools.JavaCompiler;
import javax.tools.StandardJavaFileManager;
import javax.tools.ToolProvider;

/** The rules of LANGUAGE.md that can be seen from the source of the class; run from the project's folder. */
public final class LanguageTest extends TreePathScanner<Void, String> {
    private static final Checks c = new Checks("LanguageTest");
    private static final String SOURCE = "src/main/java/GreatChunks.java";
    private static final int MOST_PARAMETERS = 7, MOST_LINES = 60, MOST_DEPTH = 8, MOST_CLASSES = 12, MOST_FIELDS = 20;
    private static final Set<String> LIBRARY = Set.of("java.lang.Math.max", "java.lang.Math.min", "java.lang.Integer.bitCount",
        "java.lang.System.arraycopy", "java.util.Arrays.fill");

    private final CompilationUnitTree unit;
    private final Trees trees;
    /** By a method: those of the class that it calls, constructors too. */
    private final Map<String, Set<String>> calls = new TreeMap<>();
    private final Set<String> publicNames = new TreeSet<>();
    private final Set<String> privateNames = new TreeSet<>();
    private final Set<String> faces = new TreeSet<>();
    private int classes = 0;

    private LanguageTest(CompilationUnitTree unit, Trees trees) {
        this.unit = unit;
        this.trees = trees;
    }

    public static void main(String[] args) throws IOException {
        JavaCompiler compiler = ToolProvider.getSystemJavaCompiler();
        try (StandardJavaFileManager manager = compiler.getStandardFileManager(null, null, null)) {
            JavacTask task = (JavacTask) compiler.getTask(null, manager, null, List.of("-proc:none"), null,
                manager.getJavaFileObjects(new File(SOURCE)));
            CompilationUnitTree unit = task.parse().iterator().next();
            task.analyze();
            LanguageTest test = new LanguageTest(unit, Trees.instance(task));
            test.scan(unit, "");
            test.whole();
        }
        c.end();
    }

    private void whole() {
        c.about("rule 1");
        c.due("a package", unit.getPackageName() == null ? 0 : 1, 0);
        c.due("public classes", unit.getTypeDecls().size(), 1);
        privateNames.retainAll(publicNames);
        c.due("private methods of a public name: " + privateNames, privateNames.size(), 0);
        c.about("rule 11");
        c.due(classes + " classes", classes <= MOST_CLASSES ? 1 : 0, 1);
        for (String face : faces) {
            int depth = depthFrom(face, 0);
            c.due(face + " goes " + depth + " deep", depth <= MOST_DEPTH ? 1 : 0, 1);
        }
    }

    /** How deep the calls from a method go, itself counted; beyond any bound where it calls itself. */
    private int depthFrom(String method, int above) {
        if (above > MOST_DEPTH) {
            return 1;
        }
        int most = 0;
        for (String next : calls.getOrDefault(method, Set.of())) {
            most = Math.max(most, depthFrom(next, above + 1));
        }
        return most + 1;
    }

    private void no(String rule, Tree tree, String what) {
        c.about(rule);
        c.due(what + " in line " + line(tree), 1, 0);
    }

    private long line(Tree tree) {
        return unit.getLineMap().getLineNumber(trees.getSourcePositions().getStartPosition(unit, tree));
    }

    private long lines(Tree tree) {
        long end = trees.getSourcePositions().getEndPosition(unit, tree);
        return unit.getLineMap().getLineNumber(end) - line(tree) + 1;
    }

    private TypeMirror typeOf(Tree tree) {
        return trees.getTypeMirror(new TreePath(getCurrentPath(), tree));
    }

    private static String nameOf(Element element) {
        return element.getEnclosingElement() + "." + element;
    }

    @Override
    public Void visitImport(ImportTree tree, String in) {
        c.about("rule 4");
        c.due(tree + "", tree.getQualifiedIdentifier().toString().equals("java.util.Arrays") ? 1 : 0, 1);
        return null;
    }

    @Override
    public Void visitClass(ClassTree tree, String in) {
        classes++;
        int fields = 0;
        for (Tree member : tree.getMembers()) {
            if (member instanceof VariableTree field) {
                boolean isStatic = field.getModifiers().getFlags().contains(Modifier.STATIC);
                fields += isStatic ? 0 : 1;
                c.about("rule 5");
                c.due(field.getName() + " is static, not final",
                    isStatic && !field.getModifiers().getFlags().contains(Modifier.FINAL) ? 1 : 0, 0);
            }
            c.about("rule 5");
            c.due("a block in line " + line(member), member.getKind() == Tree.Kind.BLOCK ? 1 : 0, 0);
        }
        c.about("rule 11");
        c.due(tree.getSimpleName() + " has " + fields + " fields", fields <= MOST_FIELDS ? 1 : 0, 1);
        return super.visitClass(tree, tree.getSimpleName() + "");
    }

    @Override
    public Void visitMethod(MethodTree tree, String in) {
        Element method = trees.getElement(getCurrentPath());
        String name = nameOf(method);
        boolean isConstructor = method.getKind() == ElementKind.CONSTRUCTOR;
        if (method.getModifiers().contains(Modifier.PUBLIC)) {
            faces.add(name);
            publicNames.add(tree.getName() + "");
        } else if (method.getModifiers().contains(Modifier.PRIVATE) && !isConstructor) {
            privateNames.add(tree.getName() + "");
        }
        c.about("rule 11");
        c.due(name + " has few parameters", tree.getParameters().size() <= MOST_PARAMETERS ? 1 : 0, 1);
        c.due(name + " is short", isConstructor || lines(tree) <= MOST_LINES ? 1 : 0, 1);
        return super.visitMethod(tree, name);
    }

    @Override
    public Void visitMethodInvocation(MethodInvocationTree tree, String in) {
        Element called = trees.getElement(getCurrentPath());
        if (called instanceof ExecutableElement method && !isSuper(tree)) {
            if (isOurs(method)) {
                calls.computeIfAbsent(in, key -> new TreeSet<>()).add(nameOf(method));
            } else {
                isOfTheLibrary(tree, method);
            }
        }
        return super.visitMethodInvocation(tree, in);
    }

    private void isOfTheLibrary(MethodInvocationTree tree, ExecutableElement method) {
        String name = method.getEnclosingElement() + "." + method.getSimpleName();
        c.about("rule 4");
        c.due(name + " in line " + line(tree), LIBRARY.contains(name) ? 1 : 0, 1);
        if (name.endsWith(".fill") || name.endsWith(".arraycopy")) {
            TypeMirror row = typeOf(tree.getArguments().get(0));
            boolean ofNumbers = row instanceof ArrayType rows && rows.getComponentType().toString().equals("int");
            c.due(name + " over numbers in line " + line(tree), ofNumbers ? 1 : 0, 1);
        }
    }

    private static boolean isSuper(MethodInvocationTree tree) {
        return tree.getMethodSelect().toString().equals("super");
    }

    private static boolean isOurs(Element element) {
        return element.getEnclosingElement().toString().startsWith("GreatChunks");
    }

    @Override
    public Void visitNewClass(NewClassTree tree, String in) {
        Element made = trees.getElement(getCurrentPath());
        c.about("rule 3");
        c.due("new " + tree.getIdentifier(), made != null && isOurs(made) ? 1 : 0, 1);
        if (made != null) {
            calls.computeIfAbsent(in, key -> new TreeSet<>()).add(nameOf(made));
        }
        return super.visitNewClass(tree, in);
    }

    @Override
    public Void visitBinary(BinaryTree tree, String in) {
        TypeMirror type = typeOf(tree.getLeftOperand());
        TypeMirror right = typeOf(tree.getRightOperand());
        if ((type + "" + right).contains("String")) {
            no("rule 10", tree, "texts joined or compared by a sign");
        }
        return super.visitBinary(tree, in);
    }

    @Override
    public Void visitLambdaExpression(LambdaExpressionTree tree, String in) {
        no("rule 2", tree, "a lambda");
        return null;
    }

    @Override
    public Void visitMemberReference(MemberReferenceTree tree, String in) {
        no("rule 2", tree, "a method reference");
        return null;
    }

    @Override
    public Void visitTry(TryTree tree, String in) {
        no("rule 6, for nothing is thrown", tree, "a try");
        return null;
    }

    @Override
    public Void visitThrow(ThrowTree tree, String in) {
        no("rule 6, for the document names no exception", tree, "a throw");
        return null;
    }

    @Override
    public Void visitSynchronized(SynchronizedTree tree, String in) {
        no("rule 6", tree, "a synchronized block");
        return null;
    }

    @Override
    public Void visitAssert(AssertTree tree, String in) {
        no("rule 6", tree, "an assert");
        return null;
    }

    @Override
    public Void visitForLoop(ForLoopTree tree, String in) {
        ends(tree, tree.getCondition());
        return super.visitForLoop(tree, in);
    }

    @Override
    public Void visitWhileLoop(WhileLoopTree tree, String in) {
        ends(tree, tree.getCondition());
        return super.visitWhileLoop(tree, in);
    }

    @Override
    public Void visitDoWhileLoop(DoWhileLoopTree tree, String in) {
        ends(tree, tree.getCondition());
        return super.visitDoWhileLoop(tree, in);
    }

    /** A loop without an end has no condition, or a constant one; a bound is a comparison by less or more. */
    private void ends(Tree loop, Tree condition) {
        boolean isNone = condition == null || condition instanceof LiteralTree;
        String text = condition + "";
        boolean isBound = text.contains("<") || text.contains(">");
        c.about("rule 9");
        c.due("a bound of the loop in line " + line(loop), !isNone && isBound ? 1 : 0, 1);
    }
}
