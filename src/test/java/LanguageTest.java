import com.sun.source.tree.*;
import com.sun.source.util.JavacTask;
import com.sun.source.util.TreeScanner;
import java.io.IOException;
import java.nio.file.Path;
import java.util.ArrayList;
import java.util.EnumSet;
import java.util.HashMap;
import java.util.HashSet;
import java.util.List;
import java.util.Map;
import java.util.Set;
import java.util.TreeSet;
import javax.lang.model.element.Modifier;
import javax.lang.model.type.TypeKind;
import javax.tools.JavaCompiler;
import javax.tools.StandardJavaFileManager;
import javax.tools.ToolProvider;

/**
 * The rules of LANGUAGE.md that can be seen from the source. Where a rule leaves room that the
 * program does not use (while loops, local variables that name arrays), the test leaves none, as
 * that is simpler to look at. Rule 7 is for the tests that make calls; FaceTest has the rest of 1.
 */
public final class LanguageTest {
    private static final Path SOURCE = Path.of("src", "main", "java", "BindingLisp.java");
    private static final int MOST_PARAMETERS = 7, MOST_LINES = 60, MOST_DEEP = 6, MOST_FIELDS = 40;
    private static final Set<TypeKind> TYPES = EnumSet.of(
        TypeKind.INT, TypeKind.LONG, TypeKind.SHORT, TypeKind.BYTE, TypeKind.CHAR, TypeKind.BOOLEAN);
    private static final Set<Tree.Kind> RULED_OUT = EnumSet.of(
        Tree.Kind.THROW, Tree.Kind.TRY, Tree.Kind.SYNCHRONIZED, Tree.Kind.ASSERT, Tree.Kind.INSTANCE_OF,
        Tree.Kind.LAMBDA_EXPRESSION, Tree.Kind.MEMBER_REFERENCE);

    private final Checks checks = new Checks();
    private final CompilationUnitTree unit;
    private final ClassTree program;
    private final Map<String, MethodTree> methods = new HashMap<>();
    private final List<VariableTree> fields = new ArrayList<>();

    private LanguageTest(CompilationUnitTree unit) {
        this.unit = unit;
        this.program = (ClassTree) unit.getTypeDecls().get(0);
    }

    public static void main(String[] args) throws IOException {
        JavaCompiler compiler = ToolProvider.getSystemJavaCompiler();
        try (StandardJavaFileManager files = compiler.getStandardFileManager(null, null, null)) {
            JavacTask task = (JavacTask) compiler.getTask(
                null, files, null, null, null, files.getJavaFileObjects(SOURCE));
            LanguageTest test = new LanguageTest(task.parse().iterator().next());
            test.oneClass();
            test.types();
            test.noLibrary();
            test.arrays();
            test.constants();
            test.ruledOut();
            test.noRecursion();
            test.loops();
            test.sizes();
            test.checks.end();
        }
    }

    /** All trees inside this one, itself among them. */
    private static List<Tree> allIn(Tree tree) {
        List<Tree> found = new ArrayList<>();
        new TreeScanner<Void, Void>() {
            @Override
            public Void scan(Tree inside, Void none) {
                if (inside != null) {
                    found.add(inside);
                }
                return super.scan(inside, none);
            }
        }.scan(tree, null);
        return found;
    }

    private static <T extends Tree> List<T> allIn(Tree tree, Class<T> sort) {
        List<T> found = new ArrayList<>();
        for (Tree inside : allIn(tree)) {
            if (sort.isInstance(inside)) {
                found.add(sort.cast(inside));
            }
        }
        return found;
    }

    private void oneClass() {
        checks.about("LANGUAGE.md, rule 1");
        checks.yes("no package line", unit.getPackage() == null);
        checks.same("types in the file", unit.getTypeDecls().size(), 1);
        Set<String> names = new HashSet<>();
        for (Tree member : program.getMembers()) {
            if (member instanceof MethodTree method) {
                String name = method.getName().toString();
                checks.yes("one method has the name " + name, names.add(name));
                methods.put(name, method);
            } else if (member instanceof VariableTree field) {
                fields.add(field);
            } else {
                checks.yes("a field or a method: " + member, false);
            }
        }
    }

    private static boolean isPlain(Tree type) {
        return type instanceof PrimitiveTypeTree plain && TYPES.contains(plain.getPrimitiveTypeKind());
    }

    private static boolean isArray(Tree type) {
        return type instanceof ArrayTypeTree array && isPlain(array.getType());
    }

    private void types() {
        checks.about("LANGUAGE.md, rule 2");
        for (VariableTree variable : allIn(program, VariableTree.class)) {
            checks.yes("type of " + variable, isPlain(variable.getType()) || isArray(variable.getType()));
        }
        Set<Tree.Kind> literals = EnumSet.of(
            Tree.Kind.INT_LITERAL, Tree.Kind.LONG_LITERAL, Tree.Kind.BOOLEAN_LITERAL, Tree.Kind.CHAR_LITERAL);
        for (LiteralTree literal : allIn(program, LiteralTree.class)) {
            checks.yes("kind of " + literal, literals.contains(literal.getKind()));
        }
    }

    private void noLibrary() {
        checks.about("LANGUAGE.md, rule 3");
        checks.same("imports", unit.getImports().size(), 0);
        for (MemberSelectTree select : allIn(program, MemberSelectTree.class)) {
            checks.yes("the length of an array: " + select, select.getIdentifier().contentEquals("length"));
        }
        for (MethodInvocationTree call : allIn(program, MethodInvocationTree.class)) {
            checks.yes("a call of the program's own: " + call, isOwn(call));
        }
    }

    /** The parser writes super() into the constructor, which is no line of the program. */
    private boolean isOwn(MethodInvocationTree call) {
        String name = call.getMethodSelect().toString();
        return methods.containsKey(name) || name.equals("super");
    }

    private void arrays() {
        checks.about("LANGUAGE.md, rule 4");
        checks.same("objects made", allIn(program, NewClassTree.class).size(), 0);
        int made = 0;
        for (VariableTree field : fields) {
            if (isArray(field.getType())) {
                checks.yes("no other array for " + field, field.getModifiers().getFlags().contains(Modifier.FINAL));
                checks.yes("made with a length: " + field, isMadeWithLength(field.getInitializer()));
                made++;
            }
        }
        checks.same("arrays made", allIn(program, NewArrayTree.class).size(), made);
        for (MethodTree method : methods.values()) {
            checks.no("array answered by " + method.getName(), isArray(method.getReturnType()));
            for (VariableTree variable : allIn(method.getBody(), VariableTree.class)) {
                checks.no("local array " + variable, isArray(variable.getType()));
            }
        }
    }

    private boolean isMadeWithLength(Tree initialiser) {
        if (!(initialiser instanceof NewArrayTree array) || array.getInitializers() != null
            || array.getDimensions().size() != 1) {
            return false;
        }
        Tree length = array.getDimensions().get(0);
        for (VariableTree field : fields) {
            if (isStatic(field) && field.getName().contentEquals(length.toString())) {
                length = field.getInitializer();
            }
        }
        return length instanceof LiteralTree number && number.getValue() instanceof Integer most && most >= 1;
    }

    private static boolean isStatic(VariableTree field) {
        return field.getModifiers().getFlags().contains(Modifier.STATIC);
    }

    private void constants() {
        checks.about("LANGUAGE.md, rule 5");
        for (VariableTree field : fields) {
            if (isStatic(field)) {
                String type = field.getType().toString();
                checks.yes("type of " + field, type.equals("int") || type.equals("long"));
                checks.yes("constant: " + field, field.getModifiers().getFlags().contains(Modifier.FINAL));
                checks.same("calls in " + field, allIn(field, MethodInvocationTree.class).size(), 0);
            }
        }
    }

    private void ruledOut() {
        checks.about("LANGUAGE.md, rule 6");
        for (Tree tree : allIn(program)) {
            checks.no("ruled out: " + tree.getKind(), RULED_OUT.contains(tree.getKind()));
        }
        for (TypeCastTree cast : allIn(program, TypeCastTree.class)) {
            checks.yes("cast between number types: " + cast, isPlain(cast.getType()));
        }
    }

    private Set<String> calledBy(String method) {
        Set<String> called = new TreeSet<>();
        for (MethodInvocationTree call : allIn(methods.get(method), MethodInvocationTree.class)) {
            called.add(call.getMethodSelect().toString());
        }
        called.remove("super");
        return called;
    }

    /** The methods that may be at work at once when this one is called; too many if it recurs. */
    private int deepest(String method, int above) {
        if (above > methods.size()) {
            return above;
        }
        int deepest = above + 1;
        for (String called : calledBy(method)) {
            deepest = Math.max(deepest, deepest(called, above + 1));
        }
        return deepest;
    }

    private void noRecursion() {
        for (String method : methods.keySet()) {
            int deepest = deepest(method, 0);
            checks.about("LANGUAGE.md, rule 8");
            checks.yes(method + " does not recur", deepest <= methods.size());
            checks.about("LANGUAGE.md, rule 10");
            checks.yes(deepest + " deep in " + method, deepest <= MOST_DEEP);
        }
    }

    private void loops() {
        checks.about("LANGUAGE.md, rule 8");
        checks.same("while loops", allIn(program, WhileLoopTree.class).size(), 0);
        checks.same("do loops", allIn(program, DoWhileLoopTree.class).size(), 0);
        checks.same("loops over an array", allIn(program, EnhancedForLoopTree.class).size(), 0);
        for (ForLoopTree loop : allIn(program, ForLoopTree.class)) {
            checks.yes("an end that can be seen: " + loop, isCounted(loop));
        }
    }

    /** A counter that goes up by one in each turn, and in no other line, stays below a bound. */
    private static boolean isCounted(ForLoopTree loop) {
        String counter = "";
        for (ExpressionStatementTree update : loop.getUpdate()) {
            if (update.getExpression() instanceof UnaryTree unary
                && unary.getKind() == Tree.Kind.POSTFIX_INCREMENT) {
                counter = unary.getExpression().toString();
            }
        }
        return hasBound(loop.getCondition(), counter) && !changes(loop.getStatement(), counter);
    }

    private static boolean hasBound(ExpressionTree condition, String counter) {
        if (condition instanceof ParenthesizedTree inner) {
            return hasBound(inner.getExpression(), counter);
        }
        if (!(condition instanceof BinaryTree both)) {
            return false;
        }
        if (both.getKind() == Tree.Kind.CONDITIONAL_AND) {
            return hasBound(both.getLeftOperand(), counter) || hasBound(both.getRightOperand(), counter);
        }
        return both.getKind() == Tree.Kind.LESS_THAN && both.getLeftOperand().toString().equals(counter);
    }

    private static boolean changes(Tree body, String name) {
        for (Tree tree : allIn(body)) {
            if (tree instanceof AssignmentTree set && set.getVariable().toString().equals(name)
                || tree instanceof CompoundAssignmentTree more && more.getVariable().toString().equals(name)
                || tree instanceof UnaryTree unary && unary.getExpression().toString().equals(name)) {
                return true;
            }
        }
        return false;
    }

    private void sizes() {
        checks.about("LANGUAGE.md, rule 10");
        int count = 0;
        for (VariableTree field : fields) {
            count += isStatic(field) ? 0 : 1;
        }
        checks.yes(count + " fields", count <= MOST_FIELDS);
        for (MethodTree method : methods.values()) {
            int lines = method.toString().trim().split("\n").length;
            checks.yes(lines + " lines in " + method.getName(), lines <= MOST_LINES);
            int parameters = method.getParameters().size();
            checks.yes(parameters + " parameters of " + method.getName(), parameters <= MOST_PARAMETERS);
        }
        for (MethodInvocationTree call : allIn(program, MethodInvocationTree.class)) {
            for (ExpressionTree argument : call.getArguments()) {
                checks.same("calls inside " + call, allIn(argument, MethodInvocationTree.class).size(), 0);
            }
        }
    }
}
