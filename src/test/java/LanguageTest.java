import com.sun.source.tree.AssertTree;
import com.sun.source.tree.BinaryTree;
import com.sun.source.tree.BlockTree;
import com.sun.source.tree.ClassTree;
import com.sun.source.tree.CompilationUnitTree;
import com.sun.source.tree.ExpressionTree;
import com.sun.source.tree.ImportTree;
import com.sun.source.tree.LambdaExpressionTree;
import com.sun.source.tree.LiteralTree;
import com.sun.source.tree.MemberReferenceTree;
import com.sun.source.tree.MethodInvocationTree;
import com.sun.source.tree.MethodTree;
import com.sun.source.tree.NewClassTree;
import com.sun.source.tree.SynchronizedTree;
import com.sun.source.tree.ThrowTree;
import com.sun.source.tree.Tree;
import com.sun.source.tree.TryTree;
import com.sun.source.tree.VariableTree;
import com.sun.source.util.JavacTask;
import com.sun.source.util.TreePath;
import com.sun.source.util.TreePathScanner;
import com.sun.source.util.Trees;
import java.io.File;
import java.io.IOException;
import java.util.HashMap;
import java.util.HashSet;
import java.util.List;
import java.util.Map;
import java.util.Set;
import java.util.TreeSet;
import javax.lang.model.element.Element;
import javax.lang.model.element.Modifier;
import javax.tools.JavaCompiler;
import javax.tools.StandardJavaFileManager;
import javax.tools.ToolProvider;

/**
 * The program keeps to those rules of LANGUAGE.md that can be seen from its text alone: what it
 * takes from the library (3, 4), static state (5), exceptions (6), how deep calls go (8, 11), and
 * how great methods and classes are (11). It finds nothing about the rules 7, 9 and 12.
 */
public final class LanguageTest extends TreePathScanner<Void, Void> {
    private static final String SOURCE = "src/main/java/LandRegister.java";
    private static final int MOST_LINES = 60;
    private static final int MOST_PARAMETERS = 7;
    private static final int MOST_CLASSES = 12;
    private static final int MOST_FIELDS = 20;
    private static final int DEEPEST = 8;
    private static final Set<String> THROWN = Set.of("IllegalStateException", "IllegalArgumentException",
            "IndexOutOfBoundsException", "ArithmeticException", "UnsupportedOperationException",
            "NoSuchElementException", "RuntimeException");
    private static final Set<String> IMPORTED = Set.of("java.util.Arrays", "java.util.ArrayList", "java.util.List",
            "java.util.Iterator", "java.util.NoSuchElementException");
    private static final Set<String> CALLED = Set.of("java.lang.Math.max", "java.lang.Math.min", "java.lang.Math.abs",
            "java.lang.Math.floorDiv", "java.lang.Math.floorMod", "java.lang.Integer.bitCount",
            "java.lang.System.arraycopy", "java.util.Arrays.fill", "java.util.Arrays.copyOf",
            "java.util.Arrays.copyOfRange", "java.lang.Object.<init>");

    private final Trees trees;
    private final CompilationUnitTree unit;
    private final Map<String, Set<String>> callees = new HashMap<>();
    private final Set<String> faceNames = new HashSet<>();
    private final Set<String> privateNames = new TreeSet<>();
    private int classes = 0;
    private int wrong = 0;

    private LanguageTest(Trees trees, CompilationUnitTree unit) {
        this.trees = trees;
        this.unit = unit;
    }

    private long lineOf(long position) {
        return unit.getLineMap().getLineNumber(position);
    }

    private void notDue(Tree where, String what) {
        wrong++;
        System.out.println("line " + lineOf(trees.getSourcePositions().getStartPosition(unit, where)) + ": " + what);
    }

    private static boolean isOwn(String name) {
        return name.startsWith("LandRegister.");
    }

    /** A method by its name alone: what overrides it in another class counts as the same. */
    private static String plainName(Element method) {
        String owner = method.getEnclosingElement().toString();
        boolean made = method.getSimpleName().contentEquals("<init>");
        return made ? owner + ".<init>" : method.getSimpleName().toString();
    }

    private String caller() {
        TreePath path = getCurrentPath();
        while (path != null && !(path.getLeaf() instanceof MethodTree)) {
            path = path.getParentPath();
        }
        return path == null ? "a field" : plainName(trees.getElement(path));
    }

    private void noteCall(Tree where, Element called) {
        String full = called.getEnclosingElement() + "." + called.getSimpleName();
        if (isOwn(full)) {
            callees.computeIfAbsent(caller(), k -> new TreeSet<>()).add(plainName(called));
        } else if (!CALLED.contains(full)) {
            notDue(where, "rule 4: call of " + full);
        }
    }

    @Override
    public Void visitImport(ImportTree node, Void p) {
        if (node.isStatic() || !IMPORTED.contains(node.getQualifiedIdentifier().toString())) {
            notDue(node, "rule 4: " + node);
        }
        return null;
    }

    @Override
    public Void visitClass(ClassTree node, Void p) {
        classes++;
        int fields = 0;
        for (Tree member : node.getMembers()) {
            if (member instanceof VariableTree field) {
                Set<Modifier> flags = field.getModifiers().getFlags();
                fields += flags.contains(Modifier.STATIC) ? 0 : 1;
                if (flags.contains(Modifier.STATIC) && !flags.contains(Modifier.FINAL)) {
                    notDue(field, "rule 5: static state");
                }
            }
            if (member instanceof BlockTree block && block.isStatic()) {
                notDue(block, "rule 5: static initialiser");
            }
        }
        if (fields > MOST_FIELDS) {
            notDue(node, "rule 11: " + fields + " fields");
        }
        boolean outer = getCurrentPath().getParentPath().getLeaf() instanceof CompilationUnitTree;
        if (!outer && !node.getModifiers().getFlags().contains(Modifier.STATIC)) {
            notDue(node, "rule 1: a class inside that is not static");
        }
        return super.visitClass(node, p);
    }

    @Override
    public Void visitMethod(MethodTree node, Void p) {
        long first = lineOf(trees.getSourcePositions().getStartPosition(unit, node));
        long last = lineOf(trees.getSourcePositions().getEndPosition(unit, node));
        if (last - first + 1 > MOST_LINES) {
            notDue(node, "rule 11: " + (last - first + 1) + " lines");
        }
        if (node.getParameters().size() > MOST_PARAMETERS) {
            notDue(node, "rule 11: too many parameters");
        }
        Set<Modifier> flags = node.getModifiers().getFlags();
        if (node.getReturnType() == null) {
            return super.visitMethod(node, p);
        }
        if (flags.contains(Modifier.PUBLIC)) {
            faceNames.add(node.getName().toString());
        } else if (flags.contains(Modifier.PRIVATE)) {
            privateNames.add(node.getName().toString());
        }
        return super.visitMethod(node, p);
    }

    @Override
    public Void visitMethodInvocation(MethodInvocationTree node, Void p) {
        noteCall(node, trees.getElement(getCurrentPath()));
        return super.visitMethodInvocation(node, p);
    }

    @Override
    public Void visitNewClass(NewClassTree node, Void p) {
        Element made = trees.getElement(getCurrentPath());
        String type = made.getEnclosingElement().getSimpleName().toString();
        boolean thrown = getCurrentPath().getParentPath().getLeaf() instanceof ThrowTree;
        if (!thrown || !THROWN.contains(type)) {
            noteCall(node, made);
        }
        return super.visitNewClass(node, p);
    }

    @Override
    public Void visitThrow(ThrowTree node, Void p) {
        if (!(node.getExpression() instanceof NewClassTree made) || !isWrittenText(made.getArguments())) {
            notDue(node, "rule 6: thrown in another way");
        }
        if (caller().endsWith("<init>")) {
            notDue(node, "rule 6: throw in a constructor");
        }
        return super.visitThrow(node, p);
    }

    private static boolean isWrittenText(List<? extends ExpressionTree> arguments) {
        return arguments.isEmpty() || arguments.size() == 1 && arguments.get(0) instanceof LiteralTree;
    }

    @Override
    public Void visitTry(TryTree node, Void p) {
        if (node.getFinallyBlock() != null || !node.getResources().isEmpty()) {
            notDue(node, "rule 6: finally or resources");
        }
        return super.visitTry(node, p);
    }

    @Override
    public Void visitBinary(BinaryTree node, Void p) {
        if (node.getKind() == Tree.Kind.PLUS
                && trees.getTypeMirror(getCurrentPath()).toString().equals("java.lang.String")) {
            notDue(node, "rule 10: texts joined by +");
        }
        return super.visitBinary(node, p);
    }

    @Override
    public Void visitLambdaExpression(LambdaExpressionTree node, Void p) {
        notDue(node, "rule 2: lambda");
        return super.visitLambdaExpression(node, p);
    }

    @Override
    public Void visitMemberReference(MemberReferenceTree node, Void p) {
        notDue(node, "rule 2: method reference");
        return super.visitMemberReference(node, p);
    }

    @Override
    public Void visitSynchronized(SynchronizedTree node, Void p) {
        notDue(node, "rule 6: synchronized");
        return super.visitSynchronized(node, p);
    }

    @Override
    public Void visitAssert(AssertTree node, Void p) {
        notDue(node, "rule 6: assert");
        return super.visitAssert(node, p);
    }

    /** How many calls stand open at once below the method, itself among them; it is no recursion. */
    private int depth(String method, Set<String> open) {
        if (!open.add(method)) {
            wrong++;
            System.out.println("rule 8: recursion through " + method);
            return 0;
        }
        int below = 0;
        for (String callee : callees.getOrDefault(method, Set.of())) {
            below = Math.max(below, depth(callee, open));
        }
        open.remove(method);
        return below + 1;
    }

    private int count() {
        scan(unit, null);
        if (classes > MOST_CLASSES) {
            notDue(unit, "rule 11: " + classes + " classes");
        }
        privateNames.retainAll(faceNames);
        for (String name : privateNames) {
            notDue(unit, "rule 1: a private method has the public name " + name);
        }
        int deepest = 0;
        for (String method : List.copyOf(callees.keySet())) {
            deepest = Math.max(deepest, depth(method, new HashSet<>()));
        }
        if (deepest > DEEPEST) {
            notDue(unit, "rule 11: calls go " + deepest + " deep");
        }
        System.out.println(classes + " classes, calls go " + deepest + " deep");
        return wrong;
    }

    public static void main(String[] args) throws IOException {
        JavaCompiler compiler = ToolProvider.getSystemJavaCompiler();
        try (StandardJavaFileManager files = compiler.getStandardFileManager(null, null, null)) {
            JavacTask task = (JavacTask) compiler.getTask(null, files, null, List.of("--release", "17", "-proc:none"),
                    null, files.getJavaFileObjects(new File(SOURCE)));
            CompilationUnitTree unit = task.parse().iterator().next();
            task.analyze();
            int wrong = new LanguageTest(Trees.instance(task), unit).count();
            System.out.println(wrong == 0 ? "the language is as due" : wrong + " things are not as due");
            if (wrong != 0) {
                System.exit(1);
            }
        }
    }
}
