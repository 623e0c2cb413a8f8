import com.sun.source.tree.AssignmentTree;
import com.sun.source.tree.BinaryTree;
import com.sun.source.tree.BlockTree;
import com.sun.source.tree.ClassTree;
import com.sun.source.tree.CompoundAssignmentTree;
import com.sun.source.tree.ExpressionTree;
import com.sun.source.tree.ForLoopTree;
import com.sun.source.tree.IdentifierTree;
import com.sun.source.tree.ImportTree;
import com.sun.source.tree.MethodInvocationTree;
import com.sun.source.tree.MethodTree;
import com.sun.source.tree.Tree;
import com.sun.source.tree.UnaryTree;
import com.sun.source.tree.VariableTree;
import com.sun.source.util.TreePath;
import com.sun.source.util.TreeScanner;
import java.io.IOException;
import java.nio.file.Files;
import java.nio.file.Path;
import java.util.EnumSet;
import java.util.HashSet;
import java.util.LinkedHashSet;
import java.util.List;
import java.util.Map;
import java.util.Set;
import javax.lang.model.element.Element;
import javax.lang.model.element.Modifier;
import javax.lang.model.element.VariableElement;

/**
 * The rules of ../shared/LANGUAGE.md that the source can be asked for, each test with its number. The
 * class keeps to a part of what the rules leave: ints and booleans, loops that count, no recursion,
 * and objects that are made with the fields that hold them. A kind of Java that the class begins to
 * use has to be added here, with the test that its rule needs.
 */
public final class LanguageTest {
    private static final Path SOURCE = Path.of("src/main/java/GroupRegistration.java");
    private static final Set<String> LIBRARY = Set.of("java.util.Arrays.fill(int[],int)");
    private static final Set<String> TYPES = Set.of("int", "boolean", "int[]", "boolean[]");
    private static final Set<Tree.Kind> KINDS = EnumSet.of(
            Tree.Kind.IMPORT, Tree.Kind.CLASS, Tree.Kind.MODIFIERS, Tree.Kind.VARIABLE, Tree.Kind.METHOD,
            Tree.Kind.PRIMITIVE_TYPE, Tree.Kind.ARRAY_TYPE, Tree.Kind.IDENTIFIER, Tree.Kind.MEMBER_SELECT,
            Tree.Kind.INT_LITERAL, Tree.Kind.BOOLEAN_LITERAL, Tree.Kind.NEW_CLASS, Tree.Kind.NEW_ARRAY,
            Tree.Kind.ARRAY_ACCESS, Tree.Kind.METHOD_INVOCATION, Tree.Kind.BLOCK, Tree.Kind.IF, Tree.Kind.FOR_LOOP,
            Tree.Kind.RETURN, Tree.Kind.EXPRESSION_STATEMENT, Tree.Kind.PARENTHESIZED, Tree.Kind.ASSIGNMENT,
            Tree.Kind.PLUS_ASSIGNMENT, Tree.Kind.OR_ASSIGNMENT, Tree.Kind.POSTFIX_INCREMENT,
            Tree.Kind.POSTFIX_DECREMENT, Tree.Kind.UNARY_MINUS, Tree.Kind.LOGICAL_COMPLEMENT, Tree.Kind.PLUS,
            Tree.Kind.MULTIPLY, Tree.Kind.DIVIDE, Tree.Kind.LEFT_SHIFT, Tree.Kind.UNSIGNED_RIGHT_SHIFT,
            Tree.Kind.AND, Tree.Kind.EQUAL_TO, Tree.Kind.NOT_EQUAL_TO, Tree.Kind.LESS_THAN,
            Tree.Kind.LESS_THAN_EQUAL, Tree.Kind.GREATER_THAN, Tree.Kind.GREATER_THAN_EQUAL,
            Tree.Kind.CONDITIONAL_AND, Tree.Kind.CONDITIONAL_OR, Tree.Kind.CONDITIONAL_EXPRESSION);
    private static final Set<Tree.Kind> CHANGES = EnumSet.of(
            Tree.Kind.POSTFIX_INCREMENT, Tree.Kind.POSTFIX_DECREMENT,
            Tree.Kind.PREFIX_INCREMENT, Tree.Kind.PREFIX_DECREMENT);
    private static final int MOST_PARAMETERS = 7;
    private static final int MOST_LINES = 60;
    private static final int MOST_CLASSES = 12;
    private static final int MOST_FIELDS = 20;
    private static final int DEEPEST_CALL = 8;

    private final SourceTree source;
    private final List<TreePath> all;

    private LanguageTest() throws IOException {
        source = new SourceTree(SOURCE);
        all = source.all();
    }

    public static void main(String[] args) throws IOException {
        LanguageTest test = new LanguageTest();
        test.signs();
        test.kinds();
        test.names();
        test.classes();
        test.types();
        test.library();
        test.staticFields();
        test.operators();
        test.loops();
        test.calls();
        test.sizes();
        test.madeObjects();
        Script.end();
    }

    private static void holds(int rule, String what, boolean isSo) {
        Script.due("rule " + rule + ": " + what, isSo ? 1 : 0, 1);
    }

    private String at(Tree tree) {
        return "line " + source.lineOf(tree) + " ";
    }

    private void signs() throws IOException {
        String text = Files.readString(SOURCE);
        holds(4, "the file has signs 1 to 127 alone", text.chars().allMatch(sign -> sign > 0 && sign < 128));
    }

    /** Throw, try, assert, lambdas, casts, texts, while and all the rest would be kinds of their own. */
    private void kinds() {
        for (TreePath path : all) {
            Tree.Kind kind = path.getLeaf().getKind();
            holds(6, at(path.getLeaf()) + "is of a kind that the class keeps to: " + kind, KINDS.contains(kind));
        }
    }

    private void names() {
        Set<String> open = new HashSet<>();
        for (MethodTree method : source.all(MethodTree.class)) {
            if (method.getModifiers().getFlags().contains(Modifier.PUBLIC)) {
                open.add(method.getName().toString());
            }
        }
        for (MethodTree method : source.all(MethodTree.class)) {
            Set<Modifier> flags = method.getModifiers().getFlags();
            boolean isPrivate = flags.contains(Modifier.PRIVATE);
            boolean isConstructor = method.getReturnType() == null;
            holds(1, at(method) + "is public or private", isPrivate || flags.contains(Modifier.PUBLIC));
            holds(1, at(method) + "no private method bears the name of a public one",
                    !isPrivate || isConstructor || !open.contains(method.getName().toString()));
        }
    }

    private void classes() {
        holds(1, "there is no package line", source.unit().getPackageName() == null);
        Script.due("rule 1: classes beside the public one", source.unit().getTypeDecls().size(), 1);
        for (TreePath path : all) {
            if (path.getLeaf() instanceof ClassTree inside && path.getParentPath().getParentPath() != null) {
                Set<Modifier> flags = inside.getModifiers().getFlags();
                holds(2, at(inside) + "is a static class among the members", SourceTree.isMember(path)
                        && flags.contains(Modifier.STATIC) && flags.contains(Modifier.PRIVATE));
            }
        }
    }

    private void types() {
        Set<String> allowed = new HashSet<>(TYPES);
        source.all(ClassTree.class).forEach(own -> allowed.add(own.getSimpleName().toString()));
        for (VariableTree variable : source.all(VariableTree.class)) {
            holds(3, at(variable) + "is of a type that is allowed", allowed.contains(variable.getType().toString()));
        }
        allowed.add("void");
        for (MethodTree method : source.all(MethodTree.class)) {
            Tree type = method.getReturnType();
            holds(3, at(method) + "answers a type that is allowed", type == null || allowed.contains(type.toString()));
        }
    }

    private void library() {
        for (ImportTree line : source.all(ImportTree.class)) {
            holds(4, at(line) + "imports Arrays alone", !line.isStatic()
                    && line.getQualifiedIdentifier().toString().equals("java.util.Arrays"));
        }
        Set<Element> own = source.calls().keySet();
        for (TreePath path : all) {
            if (path.getLeaf() instanceof MethodInvocationTree call) {
                Element called = source.meaning(path);
                String name = called.getEnclosingElement() + "." + called;
                holds(4, at(call) + "calls what is allowed: " + name, own.contains(called) || LIBRARY.contains(name));
            }
        }
    }

    private void staticFields() {
        for (TreePath path : all) {
            Tree tree = path.getLeaf();
            if (tree instanceof VariableTree field && field.getModifiers().getFlags().contains(Modifier.STATIC)) {
                holds(5, at(tree) + "is a constant", source.meaning(path) instanceof VariableElement constant
                        && constant.getConstantValue() instanceof Integer);
            }
            holds(5, at(tree) + "is no initialiser block", !(tree instanceof BlockTree && SourceTree.isMember(path)));
        }
    }

    private void operators() {
        for (TreePath path : all) {
            if (path.getLeaf() instanceof BinaryTree binary) {
                holds(6, at(binary) + "compares and counts numbers and booleans alone",
                        source.isPrimitive(new TreePath(path, binary.getLeftOperand()))
                                && source.isPrimitive(new TreePath(path, binary.getRightOperand())));
                if (binary.getKind() == Tree.Kind.DIVIDE) {
                    Element divisor = source.meaning(new TreePath(path, binary.getRightOperand()));
                    holds(7, at(binary) + "divides by a constant that is not 0",
                            divisor instanceof VariableElement constant
                                    && constant.getConstantValue() instanceof Integer number && number != 0);
                }
            }
        }
    }

    /** A loop is "for (int i = ..; i < bound; i++)" (or "<="), and i changes nowhere else. */
    private void loops() {
        for (ForLoopTree loop : source.all(ForLoopTree.class)) {
            String counter = loop.getInitializer().size() == 1
                    && loop.getInitializer().get(0) instanceof VariableTree variable ? variable.getName().toString() : "";
            String condition = loop.getCondition() == null ? "" : loop.getCondition().toString();
            holds(9, at(loop) + "begins with a counter", !counter.isEmpty());
            holds(9, at(loop) + "ends at a bound: " + condition,
                    condition.matches(counter + " <=? [\\w.]+( \\+ \\w+)?"));
            holds(9, at(loop) + "counts upwards by 1", loop.getUpdate().size() == 1
                    && loop.getUpdate().get(0).toString().equals(counter + "++;"));
            holds(9, at(loop) + "changes its counter nowhere else", !changes(loop.getStatement(), counter));
        }
    }

    private static boolean changes(Tree body, String name) {
        Set<String> changed = new HashSet<>();
        new TreeScanner<Void, Void>() {
            @Override
            public Void scan(Tree tree, Void none) {
                if (tree instanceof UnaryTree unary && CHANGES.contains(unary.getKind())) {
                    changed.add(unary.getExpression().toString());
                }
                ExpressionTree target = assigned(tree);
                if (target instanceof IdentifierTree) {
                    changed.add(target.toString());
                }
                return super.scan(tree, none);
            }
        }.scan(body, null);
        return changed.contains(name);
    }

    private static ExpressionTree assigned(Tree tree) {
        if (tree instanceof AssignmentTree assignment) {
            return assignment.getVariable();
        }
        return tree instanceof CompoundAssignmentTree compound ? compound.getVariable() : null;
    }

    private void calls() {
        Map<Element, Set<Element>> calls = source.calls();
        for (Element method : calls.keySet()) {
            holds(8, method + " does not come back to itself", depth(method, calls, new LinkedHashSet<>()) > 0);
            holds(11, method + " goes at most " + DEEPEST_CALL + " calls deep",
                    depth(method, calls, new LinkedHashSet<>()) <= DEEPEST_CALL);
        }
    }

    /** The most calls that stand open at once, the method's own counted; -1 if it calls itself. */
    private static int depth(Element method, Map<Element, Set<Element>> calls, Set<Element> open) {
        if (!open.add(method)) {
            return -1;
        }
        int deepest = 0;
        for (Element called : calls.get(method)) {
            int below = depth(called, calls, open);
            if (below < 0) {
                return -1;
            }
            deepest = Math.max(deepest, below);
        }
        open.remove(method);
        return deepest + 1;
    }

    private void sizes() {
        for (MethodTree method : source.all(MethodTree.class)) {
            holds(11, at(method) + "takes at most seven parameters", method.getParameters().size() <= MOST_PARAMETERS);
            holds(11, at(method) + "is short", source.linesOf(method) <= MOST_LINES);
        }
        List<ClassTree> classes = source.all(ClassTree.class);
        holds(11, "there are at most twelve classes", classes.size() <= MOST_CLASSES);
        for (ClassTree one : classes) {
            long fields = one.getMembers().stream().filter(member -> member instanceof VariableTree field
                    && !field.getModifiers().getFlags().contains(Modifier.STATIC)).count();
            holds(11, at(one) + "has at most twenty fields", fields <= MOST_FIELDS);
        }
    }

    /** No call makes an object, so the room that a run takes is that of its objects alone. */
    private void madeObjects() {
        for (TreePath path : all) {
            Tree.Kind kind = path.getLeaf().getKind();
            if (kind == Tree.Kind.NEW_CLASS || kind == Tree.Kind.NEW_ARRAY) {
                holds(12, at(path.getLeaf()) + "makes an object with the field that holds it",
                        !SourceTree.isInside(path, MethodTree.class));
            }
        }
    }
}
