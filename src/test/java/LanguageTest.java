import com.sun.source.tree.AssertTree;
import com.sun.source.tree.BinaryTree;
import com.sun.source.tree.BlockTree;
import com.sun.source.tree.ClassTree;
import com.sun.source.tree.CompilationUnitTree;
import com.sun.source.tree.ExpressionTree;
import com.sun.source.tree.LambdaExpressionTree;
import com.sun.source.tree.LiteralTree;
import com.sun.source.tree.MemberReferenceTree;
import com.sun.source.tree.MethodInvocationTree;
import com.sun.source.tree.MethodTree;
import com.sun.source.tree.NewClassTree;
import com.sun.source.tree.SynchronizedTree;
import com.sun.source.tree.ThrowTree;
import com.sun.source.tree.Tree;
import com.sun.source.tree.TryTree;
import com.sun.source.tree.VariableTree;
import com.sun.source.util.JavacTask;
import com.sun.source.util.TreePathScanner;
import com.sun.source.util.Trees;
import java.nio.file.Path;
import java.util.HashMap;
import java.util.LinkedHashSet;
import java.util.List;
import java.util.Map;
import java.util.Set;
import javax.lang.model.element.Element;
import javax.lang.model.element.Modifier;
import javax.lang.model.type.ArrayType;
import javax.lang.model.type.TypeKind;
import javax.lang.model.type.TypeMirror;
import javax.tools.JavaCompiler;
import javax.tools.StandardJavaFileManager;
import javax.tools.ToolProvider;

/** The rules of ../shared/LANGUAGE.md that can be read off the source; the face itself is FaceTest's. */
public final class LanguageTest extends TreePathScanner<Void, Void> {
    private static final Path SOURCE = Path.of("src", "main", "java", "CausalBroadcast.java");
    /** What the class uses of rule 4's library; a new call is looked up there before it is added here. */
    private static final Set<String> LIBRARY = Set.of("java.util.Arrays.fill", "java.lang.System.arraycopy",
            "java.lang.Math.min", "java.lang.Math.max", "java.lang.Integer.bitCount", "java.lang.String.indexOf");
    private static final Set<String> EXCEPTIONS = Set.of("IllegalStateException", "IllegalArgumentException",
            "IndexOutOfBoundsException", "ArithmeticException", "UnsupportedOperationException",
            "NoSuchElementException", "RuntimeException");
    private static final int DEEPEST = 8;
    private static final int LONGEST = 60;
    private static final int CLASSES = 12;
    private static final int FIELDS = 20;
    private static final int PARAMETERS = 7;

    private final CompilationUnitTree unit;
    private final Trees trees;
    private final Map<Element, Set<Element>> calls = new HashMap<>();
    private Element caller = null;
    private int classes = 0;

    private LanguageTest(CompilationUnitTree unit, Trees trees) {
        this.unit = unit;
        this.trees = trees;
    }

    public static void main(String[] args) throws java.io.IOException {
        JavaCompiler compiler = ToolProvider.getSystemJavaCompiler();
        try (StandardJavaFileManager files = compiler.getStandardFileManager(null, null, null)) {
            JavacTask task = (JavacTask) compiler.getTask(null, files, null, List.of("--release", "17"), null,
                    files.getJavaFileObjects(SOURCE));
            CompilationUnitTree unit = task.parse().iterator().next();
            task.analyze();
            new LanguageTest(unit, Trees.instance(task)).read();
        }
        Check.end();
    }

    private void read() {
        Check.same("rule 1: no package line,", true, unit.getPackageName() == null);
        Check.same("rule 1: the number of classes that stand in no other one", 1, unit.getTypeDecls().size());
        scan(unit, null);
        Check.same("rule 11: " + classes + " classes, few enough,", true, classes <= CLASSES);
        for (Element method : calls.keySet()) {
            int depth = depth(method, new LinkedHashSet<>());
            Check.same("rules 8 and 11: " + method + ", " + depth + " calls deep, shallow,", true, depth <= DEEPEST);
        }
    }

    /** The calls that can stand open at once, the method's own among them; a recursion has no end. */
    private int depth(Element method, Set<Element> open) {
        if (!open.add(method)) {
            return Integer.MAX_VALUE / 2;
        }
        int deepest = 0;
        for (Element callee : calls.getOrDefault(method, Set.of())) {
            deepest = Math.max(deepest, depth(callee, open));
        }
        open.remove(method);
        return deepest + 1;
    }

    private long line(Tree tree) {
        return unit.getLineMap().getLineNumber(trees.getSourcePositions().getStartPosition(unit, tree));
    }

    private void forbid(int rule, Tree tree) {
        Check.same("rule " + rule + ": " + tree.getKind() + " in line " + line(tree), "not there", "there");
    }

    private boolean isOwn(Element element) {
        return element.toString().startsWith("CausalBroadcast");
    }

    @Override
    public Void visitClass(ClassTree tree, Void none) {
        classes++;
        Element element = trees.getElement(getCurrentPath());
        Set<Modifier> flags = element.getModifiers();
        boolean inside = element.getEnclosingElement().getKind().isClass();
        Check.same("rule 1: " + tree.getSimpleName() + " static", inside, flags.contains(Modifier.STATIC));
        Check.same("rule 1: " + tree.getSimpleName() + " public", !inside, flags.contains(Modifier.PUBLIC));
        Check.same("rule 1: " + tree.getSimpleName() + " protected", false, flags.contains(Modifier.PROTECTED));
        long fields = tree.getMembers().stream().filter(member -> member instanceof VariableTree field
                && !field.getModifiers().getFlags().contains(Modifier.STATIC)).count();
        Check.same("rule 11: the fields of " + tree.getSimpleName() + " few enough", true, fields <= FIELDS);
        for (Tree member : tree.getMembers()) {
            if (member instanceof BlockTree block && block.isStatic()) {
                forbid(5, block);
            }
        }
        return super.visitClass(tree, none);
    }

    @Override
    public Void visitMethod(MethodTree tree, Void none) {
        caller = trees.getElement(getCurrentPath());
        calls.computeIfAbsent(caller, key -> new LinkedHashSet<>());
        long end = unit.getLineMap().getLineNumber(trees.getSourcePositions().getEndPosition(unit, tree));
        Check.same("rule 11: " + caller + " short", true, end - line(tree) < LONGEST);
        Check.same("rule 11: the parameters of " + caller, true, tree.getParameters().size() <= PARAMETERS);
        super.visitMethod(tree, none);
        caller = null;
        return null;
    }

    @Override
    public Void visitVariable(VariableTree tree, Void none) {
        Set<Modifier> flags = tree.getModifiers().getFlags();
        Check.same("rule 5: " + tree.getName() + " in line " + line(tree) + " not static or final", true,
                !flags.contains(Modifier.STATIC) || flags.contains(Modifier.FINAL));
        TypeMirror type = trees.getTypeMirror(getCurrentPath());
        Check.same("rule 3: the type of " + tree.getName() + " in line " + line(tree), true, isAllowed(type));
        return super.visitVariable(tree, none);
    }

    private boolean isAllowed(TypeMirror type) {
        if (type.getKind() == TypeKind.ARRAY) {
            TypeMirror part = ((ArrayType) type).getComponentType();
            boolean two = part.getKind() == TypeKind.ARRAY;
            return two ? ((ArrayType) part).getComponentType().getKind().isPrimitive()
                    : part.getKind().isPrimitive() || part.toString().startsWith("CausalBroadcast");
        }
        return type.getKind().isPrimitive() || type.toString().equals("java.lang.String")
                || type.toString().startsWith("CausalBroadcast");
    }

    @Override
    public Void visitMethodInvocation(MethodInvocationTree tree, Void none) {
        Element callee = trees.getElement(getCurrentPath());
        Element owner = callee.getEnclosingElement();
        if (isOwn(owner)) {
            call(callee);
        } else if (!callee.getSimpleName().contentEquals("<init>")) {
            String name = owner + "." + callee.getSimpleName();
            Check.same("rule 4: " + name + " in line " + line(tree), true, LIBRARY.contains(name));
        }
        return super.visitMethodInvocation(tree, none);
    }

    @Override
    public Void visitNewClass(NewClassTree tree, Void none) {
        Element made = trees.getElement(getCurrentPath());
        if (isOwn(made.getEnclosingElement())) {
            call(made);
        } else {
            boolean thrown = getCurrentPath().getParentPath().getLeaf() instanceof ThrowTree;
            Check.same("rule 4: new " + tree.getIdentifier() + " in line " + line(tree), true, thrown);
        }
        return super.visitNewClass(tree, none);
    }

    private void call(Element callee) {
        if (caller != null) {
            calls.get(caller).add(callee);
        }
    }

    @Override
    public Void visitThrow(ThrowTree tree, Void none) {
        ExpressionTree thrown = tree.getExpression();
        boolean good = thrown instanceof NewClassTree made && EXCEPTIONS.contains(made.getIdentifier().toString())
                && made.getArguments().stream().allMatch(text -> text instanceof LiteralTree);
        Check.same("rule 6: throw in line " + line(tree), true, good);
        Check.same("rule 6: throw in line " + line(tree) + " in a constructor", false,
                caller.getSimpleName().contentEquals("<init>"));
        return super.visitThrow(tree, none);
    }

    /** Rule 6 lets it catch what a throw statement threw; the class does without, which is seen at once. */
    @Override
    public Void visitTry(TryTree tree, Void none) {
        forbid(6, tree);
        return super.visitTry(tree, none);
    }

    @Override
    public Void visitLambdaExpression(LambdaExpressionTree tree, Void none) {
        forbid(2, tree);
        return super.visitLambdaExpression(tree, none);
    }

    @Override
    public Void visitMemberReference(MemberReferenceTree tree, Void none) {
        forbid(2, tree);
        return super.visitMemberReference(tree, none);
    }

    @Override
    public Void visitSynchronized(SynchronizedTree tree, Void none) {
        forbid(6, tree);
        return super.visitSynchronized(tree, none);
    }

    @Override
    public Void visitAssert(AssertTree tree, Void none) {
        forbid(6, tree);
        return super.visitAssert(tree, none);
    }

    @Override
    public Void visitBinary(BinaryTree tree, Void none) {
        boolean text = trees.getTypeMirror(getCurrentPath()).toString().equals("java.lang.String");
        Check.same("rule 10: texts joined in line " + line(tree), false, text);
        return super.visitBinary(tree, none);
    }
}
