import com.sun.source.tree.AssertTree;
import com.sun.source.tree.BinaryTree;
import com.sun.source.tree.BlockTree;
import com.sun.source.tree.CatchTree;
import com.sun.source.tree.ClassTree;
import com.sun.source.tree.CompilationUnitTree;
import com.sun.source.tree.CompoundAssignmentTree;
import com.sun.source.tree.ExpressionTree;
import com.sun.source.tree.IdentifierTree;
import com.sun.source.tree.LambdaExpressionTree;
import com.sun.source.tree.LiteralTree;
import com.sun.source.tree.MemberReferenceTree;
import com.sun.source.tree.MethodInvocationTree;
import com.sun.source.tree.MethodTree;
import com.sun.source.tree.NewClassTree;
import com.sun.source.tree.SynchronizedTree;
import com.sun.source.tree.ThrowTree;
import com.sun.source.tree.Tree;
import com.sun.source.tree.TryTree;
import com.sun.source.tree.VariableTree;
import com.sun.source.util.JavacTask;
import com.sun.source.util.SourcePositions;
import com.sun.source.util.TreePath;
import com.sun.source.util.TreePathScanner;
import com.sun.source.util.Trees;
import java.nio.file.Path;
import java.util.List;
import java.util.Set;
import java.util.TreeSet;
import javax.lang.model.element.Element;
import javax.lang.model.element.ElementKind;
import javax.lang.model.element.Modifier;
import javax.lang.model.element.TypeElement;
import javax.lang.model.type.TypeMirror;
import javax.tools.JavaCompiler;
import javax.tools.StandardJavaFileManager;
import javax.tools.ToolProvider;

/**
 * The class's source against what of ../shared/LANGUAGE.md can be seen in it: each thing told has
 * the rule's number. Whether an index is looked at before it is used, or a loop ends, it can't see.
 */
public final class LanguageTest extends TreePathScanner<Void, Void> {
    private static final Path SOURCE = Path.of("src/main/java/OfficeLadder.java");
    private static final int MOST_CLASSES = 12;
    private static final int MOST_FIELDS = 20;
    private static final int MOST_PARAMETERS = 7;
    private static final int MOST_LINES = 60;

    private static final Set<String> THROWN = Set.of("IllegalStateException", "IllegalArgumentException",
        "IndexOutOfBoundsException", "ArithmeticException", "UnsupportedOperationException",
        "NoSuchElementException", "RuntimeException");
    /** Of those the ones that the machine never throws by itself, by their own or a higher name. */
    private static final Set<String> CAUGHT = Set.of("IllegalStateException", "IllegalArgumentException",
        "UnsupportedOperationException", "NoSuchElementException");
    /** What of rule 4's library the class calls; more of it may be added here, nothing else. */
    private static final Set<String> CALLED = Set.of("java.lang.Integer.bitCount", "java.lang.System.arraycopy",
        "java.util.Arrays.fill");
    private static final Set<String> STATIC_TYPES = Set.of("int", "long", "boolean", "char",
        "java.lang.String", "int[]", "long[]", "char[]", "byte[]");
    private static final Set<String> TYPES = Set.of("java.lang.String", "java.lang.StringBuilder",
        "java.lang.Integer", "java.lang.Long", "java.lang.Math", "java.lang.System", "java.util.Arrays",
        "java.util.ArrayList", "java.util.List");

    private final Trees trees;
    private final SourcePositions places;
    private final CompilationUnitTree unit;
    private final Set<String> face = new TreeSet<>();
    private int classes = 0;
    private int methods = 0;

    private LanguageTest(Trees trees, CompilationUnitTree unit) {
        this.trees = trees;
        this.unit = unit;
        places = trees.getSourcePositions();
    }

    public static void main(String[] args) throws Exception {
        JavaCompiler compiler = ToolProvider.getSystemJavaCompiler();
        try (StandardJavaFileManager files = compiler.getStandardFileManager(null, null, null)) {
            JavacTask task = (JavacTask) compiler.getTask(null, files, null, List.of("-proc:none"), null,
                files.getJavaFileObjects(SOURCE));
            CompilationUnitTree unit = task.parse().iterator().next();
            task.analyze();
            new LanguageTest(Trees.instance(task), unit).look();
        }
        Due.end();
    }

    private void look() {
        rule(0, "no package line", unit.getPackageName() == null, unit);
        rule(1, "one class in the file", unit.getTypeDecls().size() == 1, unit);
        Tree whole = unit.getTypeDecls().get(0);
        for (Tree member : ((ClassTree) whole).getMembers()) {
            if (member instanceof MethodTree m && m.getReturnType() != null
                    && m.getModifiers().getFlags().contains(Modifier.PUBLIC)) {
                face.add(m.getName().toString());
            }
        }
        scan(unit, null);
        rule(11, classes + " classes", classes <= MOST_CLASSES, unit);
        Due.isTrue("methods were looked at: " + methods, methods > face.size());
    }

    private void rule(int number, String what, boolean holds, Tree at) {
        Due.isTrue("rule " + number + ", line " + line(places.getStartPosition(unit, at)) + ": " + what, holds);
    }

    private long line(long place) {
        return place < 0 ? 0 : unit.getLineMap().getLineNumber(place);
    }

    private TypeMirror typeOf(Tree tree) {
        return trees.getTypeMirror(new TreePath(getCurrentPath(), tree));
    }

    private <T extends Tree> T around(Class<T> kind) {
        for (TreePath p = getCurrentPath().getParentPath(); p != null; p = p.getParentPath()) {
            if (kind.isInstance(p.getLeaf())) {
                return kind.cast(p.getLeaf());
            }
        }
        return null;
    }

    @Override
    public Void visitClass(ClassTree tree, Void none) {
        classes++;
        Set<Modifier> flags = tree.getModifiers().getFlags();
        boolean outermost = getCurrentPath().getParentPath().getLeaf() == unit;
        rule(1, "public and final outside, neither public nor protected inside", outermost
            ? flags.contains(Modifier.PUBLIC) && flags.contains(Modifier.FINAL)
            : !flags.contains(Modifier.PUBLIC) && !flags.contains(Modifier.PROTECTED), tree);
        rule(2, "a class inside a method", around(MethodTree.class) == null, tree);
        int fields = 0;
        for (Tree member : tree.getMembers()) {
            if (member instanceof VariableTree v && !v.getModifiers().getFlags().contains(Modifier.STATIC)) {
                fields++;
            }
            rule(5, "no initialiser block", !(member instanceof BlockTree), member);
        }
        rule(11, fields + " fields of " + tree.getSimpleName(), fields <= MOST_FIELDS, tree);
        return super.visitClass(tree, none);
    }

    @Override
    public Void visitMethod(MethodTree tree, Void none) {
        methods++;
        String name = tree.getName().toString();
        Set<Modifier> flags = tree.getModifiers().getFlags();
        boolean isPrivate = flags.contains(Modifier.PRIVATE);
        rule(1, "private " + name + " bears a public name", !isPrivate || !face.contains(name), tree);
        rule(6, "no " + name + " of one's own", !Set.of("equals", "hashCode", "toString").contains(name), tree);
        rule(6, "no native or synchronized " + name,
            !flags.contains(Modifier.NATIVE) && !flags.contains(Modifier.SYNCHRONIZED), tree);
        rule(11, "parameters of " + name, tree.getParameters().size() <= MOST_PARAMETERS, tree);
        // What the compiler adds by itself has no end in the source.
        long end = places.getEndPosition(unit, tree);
        long lines = end < 0 ? 1 : line(end) - line(places.getStartPosition(unit, tree)) + 1;
        rule(11, lines + " lines of " + name, lines <= MOST_LINES, tree);
        return super.visitMethod(tree, none);
    }

    @Override
    public Void visitVariable(VariableTree tree, Void none) {
        Element what = trees.getElement(getCurrentPath());
        String type = what == null ? "none" : what.asType().toString();
        if (what != null && what.getKind() == ElementKind.FIELD && what.getModifiers().contains(Modifier.STATIC)) {
            rule(5, "static " + tree.getName() + " is final", what.getModifiers().contains(Modifier.FINAL), tree);
            rule(5, "static " + tree.getName() + " is a " + type, STATIC_TYPES.contains(type), tree);
        }
        boolean two = type.endsWith("[][]");
        rule(3, "rows of rows are of numbers: " + type,
            !two || Set.of("int[][]", "long[][]", "short[][]", "byte[][]").contains(type), tree);
        return super.visitVariable(tree, none);
    }

    @Override
    public Void visitIdentifier(IdentifierTree tree, Void none) {
        Element what = trees.getElement(getCurrentPath());
        if (what instanceof TypeElement type) {
            String name = type.getQualifiedName().toString();
            boolean own = name.equals("OfficeLadder") || name.startsWith("OfficeLadder.");
            rule(4, "type " + name, own || TYPES.contains(name) || THROWN.contains(tree.getName().toString()), tree);
        }
        return super.visitIdentifier(tree, none);
    }

    @Override
    public Void visitMethodInvocation(MethodInvocationTree tree, Void none) {
        Element called = trees.getElement(getCurrentPath());
        String owner = called.getEnclosingElement().toString();
        String name = called.getSimpleName().toString();
        boolean own = owner.equals("OfficeLadder") || owner.startsWith("OfficeLadder.");
        boolean made = name.equals("<init>") && owner.equals("java.lang.Object");
        rule(4, "call of " + owner + "." + name, own || made || CALLED.contains(owner + "." + name), tree);
        return super.visitMethodInvocation(tree, none);
    }

    @Override
    public Void visitThrow(ThrowTree tree, Void none) {
        MethodTree in = around(MethodTree.class);
        rule(6, "no throw in a constructor", in != null && in.getReturnType() != null, tree);
        ExpressionTree what = tree.getExpression();
        rule(6, "throw new", what instanceof NewClassTree, tree);
        if (what instanceof NewClassTree made) {
            rule(6, "throw of " + made.getIdentifier(), THROWN.contains(made.getIdentifier().toString()), tree);
            for (ExpressionTree text : made.getArguments()) {
                rule(6, "a written text", text instanceof LiteralTree l && l.getValue() instanceof String, tree);
            }
            rule(6, "one text at most", made.getArguments().size() <= 1, tree);
        }
        return super.visitThrow(tree, none);
    }

    @Override
    public Void visitTry(TryTree tree, Void none) {
        rule(6, "no finally", tree.getFinallyBlock() == null, tree);
        rule(6, "no resources", tree.getResources().isEmpty(), tree);
        MethodTree in = around(MethodTree.class);
        boolean[] throwsHere = {false};
        new TreePathScanner<Void, Void>() {
            @Override
            public Void visitThrow(ThrowTree inside, Void no) {
                throwsHere[0] = true;
                return null;
            }
        }.scan(trees.getPath(unit, in), null);
        rule(6, "no throw in the method of a try", !throwsHere[0], tree);
        return super.visitTry(tree, none);
    }

    @Override
    public Void visitCatch(CatchTree tree, Void none) {
        String type = tree.getParameter().getType().toString();
        rule(6, "catch of " + type + ", which the machine may throw", CAUGHT.contains(type), tree);
        String name = tree.getParameter().getName().toString();
        boolean[] used = {false};
        new TreePathScanner<Void, Void>() {
            @Override
            public Void visitIdentifier(IdentifierTree inside, Void no) {
                used[0] |= inside.getName().contentEquals(name);
                return null;
            }
        }.scan(trees.getPath(unit, tree.getBlock()), null);
        rule(6, "the caught exception is left alone", !used[0], tree);
        return super.visitCatch(tree, none);
    }

    @Override
    public Void visitBinary(BinaryTree tree, Void none) {
        rule(10, "no texts joined by +", tree.getKind() != Tree.Kind.PLUS || !isText(tree), tree);
        return super.visitBinary(tree, none);
    }

    @Override
    public Void visitCompoundAssignment(CompoundAssignmentTree tree, Void none) {
        rule(10, "no texts joined by +=", !isText(tree.getVariable()), tree);
        return super.visitCompoundAssignment(tree, none);
    }

    private boolean isText(Tree tree) {
        TypeMirror type = typeOf(tree);
        return type != null && type.toString().equals("java.lang.String");
    }

    @Override
    public Void visitLambdaExpression(LambdaExpressionTree tree, Void none) {
        rule(2, "a lambda", false, tree);
        return null;
    }

    @Override
    public Void visitMemberReference(MemberReferenceTree tree, Void none) {
        rule(2, "a method reference", false, tree);
        return null;
    }

    @Override
    public Void visitSynchronized(SynchronizedTree tree, Void none) {
        rule(6, "synchronized", false, tree);
        return null;
    }

    @Override
    public Void visitAssert(AssertTree tree, Void none) {
        rule(6, "assert", false, tree);
        return null;
    }
}
