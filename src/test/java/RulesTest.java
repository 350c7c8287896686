import com.sun.source.tree.AssertTree;
import com.sun.source.tree.ClassTree;
import com.sun.source.tree.CompilationUnitTree;
import com.sun.source.tree.DoWhileLoopTree;
import com.sun.source.tree.EnhancedForLoopTree;
import com.sun.source.tree.ExpressionTree;
import com.sun.source.tree.ForLoopTree;
import com.sun.source.tree.InstanceOfTree;
import com.sun.source.tree.LambdaExpressionTree;
import com.sun.source.tree.LiteralTree;
import com.sun.source.tree.MemberReferenceTree;
import com.sun.source.tree.MemberSelectTree;
import com.sun.source.tree.MethodInvocationTree;
import com.sun.source.tree.MethodTree;
import com.sun.source.tree.NewArrayTree;
import com.sun.source.tree.NewClassTree;
import com.sun.source.tree.PrimitiveTypeTree;
import com.sun.source.tree.SynchronizedTree;
import com.sun.source.tree.ThrowTree;
import com.sun.source.tree.Tree;
import com.sun.source.tree.TryTree;
import com.sun.source.tree.TypeCastTree;
import com.sun.source.tree.VariableTree;
import com.sun.source.tree.WhileLoopTree;
import com.sun.source.util.JavacTask;
import com.sun.source.util.SourcePositions;
import com.sun.source.util.TreeScanner;
import com.sun.source.util.Trees;
import java.io.IOException;
import java.nio.file.Path;
import java.util.HashMap;
import java.util.HashSet;
import java.util.List;
import java.util.Map;
import java.util.Set;
import javax.lang.model.element.Modifier;
import javax.tools.JavaCompiler;
import javax.tools.StandardJavaFileManager;
import javax.tools.ToolProvider;

/** The rules of LANGUAGE.md as far as they can be seen in the source's tree. */
public final class RulesTest extends TreeScanner<Void, Void> {
    private static final Path SOURCE = Path.of("src/main/java/GuestClassMachine.java");
    private static final Set<String> TYPES = Set.of("int", "long", "short", "byte", "char", "boolean",
        "int[]", "long[]", "short[]", "byte[]", "char[]", "boolean[]");

    private final Map<String, Set<String>> callees = new HashMap<>();
    private final Set<String> publicNames = new HashSet<>();
    private final Set<String> privateNames = new HashSet<>();
    private CompilationUnitTree unit;
    private SourcePositions positions;
    private String method = "";
    private int argumentsOpen = 0;
    private int fields = 0;

    public static void main(String[] args) throws IOException {
        JavaCompiler compiler = ToolProvider.getSystemJavaCompiler();
        try (StandardJavaFileManager files = compiler.getStandardFileManager(null, null, null)) {
            JavacTask task = (JavacTask) compiler.getTask(null, files, null, null, null,
                files.getJavaFileObjects(SOURCE));
            RulesTest rules = new RulesTest();
            rules.positions = Trees.instance(task).getSourcePositions();
            for (CompilationUnitTree unit : task.parse()) {
                rules.unit = unit;
                rules.keep(1, "no package", unit.getPackageName() == null);
                rules.keep(1, "one class", unit.getTypeDecls().size() == 1);
                rules.keep(3, "no import", unit.getImports().isEmpty());
                rules.scan(unit, null);
            }
            rules.wholeClass();
        }
        Checks.finish();
    }

    private void keep(int rule, String what, boolean kept) {
        String where = method.isEmpty() ? "" : " in " + method;
        Checks.due("rule " + rule + ": " + what + where, kept, true);
    }

    private void wholeClass() {
        method = "";
        for (String name : privateNames) {
            keep(1, "no private method is named " + name, !publicNames.contains(name));
        }
        keep(10, "some forty fields: " + fields, fields <= 40);
        for (String name : publicNames) {
            int depth = depth(name, 1);
            keep(8, "no recursion and at most six deep from " + name + ": " + depth, depth <= 6);
        }
    }

    private int depth(String name, int above) {
        int deepest = above;
        for (String callee : callees.getOrDefault(name, Set.of())) {
            // A ring of calls would go on for ever.
            if (above < 100) {
                deepest = Math.max(deepest, depth(callee, above + 1));
            }
        }
        return deepest;
    }

    private boolean oneOf(Tree type) {
        return TYPES.contains(type.toString());
    }

    @Override
    public Void visitClass(ClassTree tree, Void none) {
        keep(1, "no class inside: " + tree.getSimpleName(), tree.getSimpleName().contentEquals("GuestClassMachine"));
        for (Tree member : tree.getMembers()) {
            if (member instanceof VariableTree) {
                field((VariableTree) member);
            }
            keep(5, "no initialiser block", member.getKind() != Tree.Kind.BLOCK);
        }
        return super.visitClass(tree, none);
    }

    private void field(VariableTree field) {
        Set<Modifier> modifiers = field.getModifiers().getFlags();
        if (modifiers.contains(Modifier.STATIC)) {
            String type = field.getType().toString();
            boolean constant = modifiers.contains(Modifier.FINAL) && field.getInitializer() != null;
            keep(5, field.getName() + " is a constant", constant && (type.equals("int") || type.equals("long")));
        } else {
            fields++;
            boolean isArray = field.getType().toString().endsWith("[]");
            keep(4, field.getName() + " is never another array", !isArray || modifiers.contains(Modifier.FINAL));
        }
    }

    @Override
    public Void visitMethod(MethodTree tree, Void none) {
        method = tree.getName().toString();
        boolean isPublic = tree.getModifiers().getFlags().contains(Modifier.PUBLIC);
        (isPublic ? publicNames : privateNames).add(method);
        callees.computeIfAbsent(method, key -> new HashSet<>());
        keep(10, "at most seven parameters", tree.getParameters().size() <= 7);
        keep(10, "some sixty lines", lines(tree) <= 60);
        if (tree.getReturnType() != null) {
            String type = tree.getReturnType().toString();
            keep(4, "answers no array", !type.endsWith("[]"));
            keep(2, "answers " + type, type.equals("void") || oneOf(tree.getReturnType()));
        }
        super.visitMethod(tree, none);
        method = "";
        return null;
    }

    private long lines(Tree tree) {
        long first = unit.getLineMap().getLineNumber(positions.getStartPosition(unit, tree));
        return unit.getLineMap().getLineNumber(positions.getEndPosition(unit, tree)) - first + 1;
    }

    @Override
    public Void visitVariable(VariableTree tree, Void none) {
        keep(2, "type of " + tree.getName(), oneOf(tree.getType()));
        return super.visitVariable(tree, none);
    }

    @Override
    public Void visitNewArray(NewArrayTree tree, Void none) {
        keep(4, "arrays are made in the fields' initialisers", method.isEmpty());
        boolean plain = tree.getDimensions() != null && tree.getDimensions().size() == 1;
        Tree.Kind kind = plain ? tree.getDimensions().get(0).getKind() : Tree.Kind.OTHER;
        keep(4, "a length that is a literal or a constant",
            kind == Tree.Kind.INT_LITERAL || kind == Tree.Kind.IDENTIFIER);
        return super.visitNewArray(tree, none);
    }

    @Override
    public Void visitMethodInvocation(MethodInvocationTree tree, Void none) {
        ExpressionTree called = tree.getMethodSelect();
        boolean own = called.getKind() == Tree.Kind.IDENTIFIER;
        keep(3, "calls its own methods alone: " + called, own || called.toString().equals("super"));
        keep(10, "no call inside another's arguments: " + called, argumentsOpen == 0);
        if (!called.toString().equals("super")) {
            callees.computeIfAbsent(method, key -> new HashSet<>()).add(called.toString());
        }
        argumentsOpen++;
        List<? extends ExpressionTree> arguments = tree.getArguments();
        scan(arguments, none);
        argumentsOpen--;
        return null;
    }

    @Override
    public Void visitLiteral(LiteralTree tree, Void none) {
        Set<Tree.Kind> fine = Set.of(Tree.Kind.INT_LITERAL, Tree.Kind.LONG_LITERAL,
            Tree.Kind.CHAR_LITERAL, Tree.Kind.BOOLEAN_LITERAL);
        keep(2, "literal " + tree, fine.contains(tree.getKind()));
        return null;
    }

    @Override
    public Void visitTypeCast(TypeCastTree tree, Void none) {
        keep(6, "a cast between the number types: " + tree, tree.getType() instanceof PrimitiveTypeTree);
        return super.visitTypeCast(tree, none);
    }

    @Override
    public Void visitMemberSelect(MemberSelectTree tree, Void none) {
        keep(3, "nothing of another class: " + tree, tree.getIdentifier().contentEquals("length"));
        return super.visitMemberSelect(tree, none);
    }

    @Override
    public Void visitForLoop(ForLoopTree tree, Void none) {
        String condition = String.valueOf(tree.getCondition());
        boolean counts = tree.getInitializer().size() == 1 && tree.getUpdate().size() == 1;
        keep(8, "a counter against a bound: " + condition, counts && condition.contains(" < "));
        return super.visitForLoop(tree, none);
    }

    @Override
    public Void visitWhileLoop(WhileLoopTree tree, Void none) {
        return refuse(8, "a loop without a counter of its own");
    }

    @Override
    public Void visitDoWhileLoop(DoWhileLoopTree tree, Void none) {
        return refuse(8, "a loop without a counter of its own");
    }

    @Override
    public Void visitEnhancedForLoop(EnhancedForLoopTree tree, Void none) {
        return refuse(8, "a loop without a counter of its own");
    }

    @Override
    public Void visitNewClass(NewClassTree tree, Void none) {
        return refuse(4, "an object is made");
    }

    @Override
    public Void visitThrow(ThrowTree tree, Void none) {
        return refuse(6, "throw");
    }

    @Override
    public Void visitTry(TryTree tree, Void none) {
        return refuse(6, "try");
    }

    @Override
    public Void visitSynchronized(SynchronizedTree tree, Void none) {
        return refuse(6, "synchronized");
    }

    @Override
    public Void visitAssert(AssertTree tree, Void none) {
        return refuse(6, "assert");
    }

    @Override
    public Void visitInstanceOf(InstanceOfTree tree, Void none) {
        return refuse(6, "instanceof");
    }

    @Override
    public Void visitLambdaExpression(LambdaExpressionTree tree, Void none) {
        return refuse(6, "lambda");
    }

    @Override
    public Void visitMemberReference(MemberReferenceTree tree, Void none) {
        return refuse(6, "method reference");
    }

    private Void refuse(int rule, String what) {
        keep(rule, what, false);
        return null;
    }
}
