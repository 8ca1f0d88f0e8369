import com.sun.source.tree.*;
import com.sun.source.util.JavacTask;
import com.sun.source.util.SourcePositions;
import com.sun.source.util.TreeScanner;
import com.sun.source.util.Trees;
import java.nio.file.Files;
import java.nio.file.Path;
import java.util.List;
import java.util.Set;
import java.util.TreeSet;
import javax.lang.model.element.Modifier;
import javax.tools.JavaCompiler;
import javax.tools.StandardJavaFileManager;
import javax.tools.ToolProvider;

/** Those rules of ../shared/LANGUAGE.md that can be seen in the program as the compiler reads it. */
public final class LanguageTest extends TreeScanner<Void, Void> {
    private static final Check CHECK = new Check("LanguageTest");
    private static final Path PROGRAM = Path.of("src/main/java/SeriesBench.java");

    private static final Set<String> THROWN = Set.of("IllegalStateException", "IllegalArgumentException",
            "IndexOutOfBoundsException", "ArithmeticException", "UnsupportedOperationException",
            "NoSuchElementException", "RuntimeException");
    private static final Set<String> IMPORTED = Set.of("java.util.Arrays", "java.util.ArrayList", "java.util.List",
            "java.util.Iterator", "java.util.NoSuchElementException", "java.util.*");
    private static final Set<String> FOREIGN = Set.of("Object", "Thread", "Runtime", "Process", "Class", "Character",
            "Boolean", "Double", "Float", "Byte", "Short", "Number", "StringBuffer", "CharSequence", "Runnable",
            "Throwable", "Error", "Exception", "Map", "HashMap", "Set", "Random", "Optional", "Objects", "Collections");
    private static final Set<String> ARRAYS = Set.of("copyOf", "copyOfRange", "fill");
    private static final Set<String> OF_OBJECTS = Set.of("equals", "hashCode", "toString");
    private static final int LINES = 65;
    private static final int FIELDS = 25;
    private static final int CLASSES = 14;

    private final TreeSet<String> faults = new TreeSet<>();
    private final SourcePositions positions;
    private final CompilationUnitTree unit;
    private int classes;
    private boolean inConstructor;

    private LanguageTest(SourcePositions positions, CompilationUnitTree unit) {
        this.positions = positions;
        this.unit = unit;
    }

    public static void main(String[] args) throws Exception {
        String text = Files.readString(PROGRAM);
        CHECK.due("signs 1 to 127 alone", true, () -> text.chars().allMatch(c -> c > 0 && c < 128));
        JavaCompiler compiler = ToolProvider.getSystemJavaCompiler();
        try (StandardJavaFileManager files = compiler.getStandardFileManager(null, null, null)) {
            JavacTask task = (JavacTask) compiler.getTask(null, files, null, List.of(), null,
                    files.getJavaFileObjects(PROGRAM));
            CompilationUnitTree unit = task.parse().iterator().next();
            LanguageTest reader = new LanguageTest(Trees.instance(task).getSourcePositions(), unit);
            reader.scan(unit, null);
            CHECK.due("what is against the rules", "[]", () -> reader.faults);
            CHECK.due("rule 11: some twelve classes at most", true,
                    () -> reader.classes >= 1 && reader.classes <= CLASSES);
        }
        CHECK.end();
    }

    private long line(long position) {
        return unit.getLineMap().getLineNumber(position);
    }

    private void fault(int rule, Tree where, String what) {
        faults.add("rule " + rule + ": " + what + " in line " + line(positions.getStartPosition(unit, where)));
    }

    private void faultIf(boolean wrong, int rule, Tree where, String what) {
        if (wrong) {
            fault(rule, where, what);
        }
    }

    @Override
    public Void visitPackage(PackageTree tree, Void nothing) {
        fault(1, tree, "a package");
        return super.visitPackage(tree, nothing);
    }

    @Override
    public Void visitImport(ImportTree tree, Void nothing) {
        faultIf(tree.isStatic() || !IMPORTED.contains(tree.getQualifiedIdentifier().toString()), 4, tree, "an import");
        return null;
    }

    @Override
    public Void visitClass(ClassTree tree, Void nothing) {
        classes += tree.getSimpleName().length() > 0 ? 1 : 0;
        int fields = 0;
        for (Tree member : tree.getMembers()) {
            if (member instanceof VariableTree field) {
                boolean constant = field.getModifiers().getFlags().contains(Modifier.STATIC);
                fields += constant || tree.getKind() == Tree.Kind.ENUM ? 0 : 1;
            }
            faultIf(member instanceof BlockTree block && block.isStatic(), 5, member, "a static block");
        }
        faultIf(fields > FIELDS, 11, tree, "many fields");
        return super.visitClass(tree, nothing);
    }

    @Override
    public Void visitMethod(MethodTree tree, Void nothing) {
        long first = line(positions.getStartPosition(unit, tree));
        long last = line(Math.max(positions.getEndPosition(unit, tree), positions.getStartPosition(unit, tree)));
        faultIf(last - first >= LINES, 11, tree, "a long method");
        faultIf(tree.getParameters().size() > 7, 11, tree, "many parameters");
        faultIf(OF_OBJECTS.contains(tree.getName().toString()), 6, tree, tree.getName().toString());
        faultIf(tree.getModifiers().getFlags().contains(Modifier.SYNCHRONIZED), 6, tree, "a synchronized method");
        faultIf(tree.getModifiers().getFlags().contains(Modifier.NATIVE), 4, tree, "a native method");
        boolean outside = inConstructor;
        inConstructor = tree.getReturnType() == null;
        super.visitMethod(tree, nothing);
        inConstructor = outside;
        return null;
    }

    @Override
    public Void visitLambdaExpression(LambdaExpressionTree tree, Void nothing) {
        fault(2, tree, "a lambda");
        return super.visitLambdaExpression(tree, nothing);
    }

    @Override
    public Void visitMemberReference(MemberReferenceTree tree, Void nothing) {
        fault(2, tree, "a method reference");
        return super.visitMemberReference(tree, nothing);
    }

    @Override
    public Void visitArrayType(ArrayTypeTree tree, Void nothing) {
        faultIf(tree.getType() instanceof ArrayTypeTree inner && inner.getType() instanceof ArrayTypeTree, 3, tree,
                "an array of three dimensions");
        return super.visitArrayType(tree, nothing);
    }

    @Override
    public Void visitNewArray(NewArrayTree tree, Void nothing) {
        faultIf(tree.getDimensions().size() > 2, 3, tree, "an array of three dimensions");
        return super.visitNewArray(tree, nothing);
    }

    @Override
    public Void visitIdentifier(IdentifierTree tree, Void nothing) {
        faultIf(FOREIGN.contains(tree.getName().toString()), 4, tree, tree.getName().toString());
        return super.visitIdentifier(tree, nothing);
    }

    @Override
    public Void visitMemberSelect(MemberSelectTree tree, Void nothing) {
        String of = tree.getExpression().toString();
        String name = tree.getIdentifier().toString();
        faultIf(of.equals("System") && !name.equals("arraycopy"), 4, tree, "System." + name);
        faultIf(of.equals("Arrays") && !ARRAYS.contains(name), 4, tree, "Arrays." + name);
        faultIf(of.startsWith("java"), 4, tree, of + "." + name);
        faultIf(Set.of("Math", "Integer", "Long").contains(of) && (name.endsWith("Exact") || name.equals("random")), 4,
                tree, of + "." + name);
        return super.visitMemberSelect(tree, nothing);
    }

    @Override
    public Void visitThrow(ThrowTree tree, Void nothing) {
        boolean known = tree.getExpression() instanceof NewClassTree made
                && THROWN.contains(made.getIdentifier().toString())
                && (made.getArguments().isEmpty() || made.getArguments().size() == 1
                && made.getArguments().get(0).getKind() == Tree.Kind.STRING_LITERAL);
        faultIf(!known, 6, tree, "a throw of something else");
        faultIf(inConstructor, 6, tree, "a throw in a constructor");
        return super.visitThrow(tree, nothing);
    }

    @Override
    public Void visitTry(TryTree tree, Void nothing) {
        faultIf(tree.getFinallyBlock() != null, 6, tree, "a finally");
        faultIf(!tree.getResources().isEmpty(), 6, tree, "a try with resources");
        return super.visitTry(tree, nothing);
    }

    @Override
    public Void visitCatch(CatchTree tree, Void nothing) {
        for (String type : tree.getParameter().getType().toString().split("\\s*\\|\\s*")) {
            faultIf(!THROWN.contains(type), 6, tree, "a catch of " + type);
        }
        return super.visitCatch(tree, nothing);
    }

    @Override
    public Void visitSynchronized(SynchronizedTree tree, Void nothing) {
        fault(6, tree, "a synchronized");
        return super.visitSynchronized(tree, nothing);
    }

    @Override
    public Void visitAssert(AssertTree tree, Void nothing) {
        fault(6, tree, "an assert");
        return super.visitAssert(tree, nothing);
    }

    @Override
    public Void visitWhileLoop(WhileLoopTree tree, Void nothing) {
        faultIf(tree.getCondition().toString().equals("(true)"), 9, tree, "a loop without an end");
        return super.visitWhileLoop(tree, nothing);
    }

    @Override
    public Void visitDoWhileLoop(DoWhileLoopTree tree, Void nothing) {
        faultIf(tree.getCondition().toString().equals("(true)"), 9, tree, "a loop without an end");
        return super.visitDoWhileLoop(tree, nothing);
    }

    @Override
    public Void visitForLoop(ForLoopTree tree, Void nothing) {
        faultIf(tree.getCondition() == null, 9, tree, "a loop without an end");
        return super.visitForLoop(tree, nothing);
    }

    @Override
    public Void visitBinary(BinaryTree tree, Void nothing) {
        boolean joins = tree.getKind() == Tree.Kind.PLUS
                && (tree.getLeftOperand().getKind() == Tree.Kind.STRING_LITERAL
                || tree.getRightOperand().getKind() == Tree.Kind.STRING_LITERAL);
        faultIf(joins, 10, tree, "texts joined by +");
        return super.visitBinary(tree, nothing);
    }
}
