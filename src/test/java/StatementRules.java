import com.sun.source.tree.AssignmentTree;
import com.sun.source.tree.BinaryTree;
import com.sun.source.tree.CompilationUnitTree;
import com.sun.source.tree.CompoundAssignmentTree;
import com.sun.source.tree.ExpressionTree;
import com.sun.source.tree.ForLoopTree;
import com.sun.source.tree.IdentifierTree;
import com.sun.source.tree.MemberSelectTree;
import com.sun.source.tree.Tree;
import com.sun.source.tree.UnaryTree;
import com.sun.source.tree.VariableTree;
import com.sun.source.util.TreeScanner;
import java.util.HashSet;
import java.util.Set;

/** The rules of the language for what stands inside methods. */
final class StatementRules extends TreeScanner<Void, Void> {
    private static final Set<Tree.Kind> REFUSED = Set.of(
            Tree.Kind.LAMBDA_EXPRESSION, Tree.Kind.MEMBER_REFERENCE, Tree.Kind.INSTANCE_OF,
            Tree.Kind.THROW, Tree.Kind.TRY, Tree.Kind.SYNCHRONIZED, Tree.Kind.ASSERT,
            Tree.Kind.STRING_LITERAL, Tree.Kind.NULL_LITERAL,
            Tree.Kind.WHILE_LOOP, Tree.Kind.DO_WHILE_LOOP, Tree.Kind.ENHANCED_FOR_LOOP);

    private final Answers answers;
    private final CompilationUnitTree unit;

    StatementRules(Answers answers, CompilationUnitTree unit) {
        this.answers = answers;
        this.unit = unit;
    }

    void read() {
        scan(unit, null);
    }

    /** Rules 2, 6 and 9, and kinds that the class has no need of. */
    @Override
    public Void scan(Tree tree, Void none) {
        if (tree != null) {
            boolean isRefused = REFUSED.contains(tree.getKind());
            answers.due("kind " + tree.getKind() + " refused", isRefused, false);
        }
        return super.scan(tree, none);
    }

    /** Rule 9: "Every loop has an end that can be seen from its own lines". */
    @Override
    public Void visitForLoop(ForLoopTree loop, Void none) {
        answers.due("rule 9: counts to a bound: " + loop, countsToBound(loop), true);
        return super.visitForLoop(loop, none);
    }

    private static boolean countsToBound(ForLoopTree loop) {
        if (loop.getInitializer().size() != 1 || loop.getUpdate().size() != 1
                || !(loop.getInitializer().get(0) instanceof VariableTree counter)
                || !(loop.getCondition() instanceof BinaryTree condition)
                || !(loop.getUpdate().get(0).getExpression() instanceof UnaryTree step)) {
            return false;
        }
        String name = counter.getName().toString();
        Set<String> changed = namesChangedIn(loop.getStatement());
        return nameOf(condition.getLeftOperand()).equals(name)
                && nameOf(step.getExpression()).equals(name)
                && goesTowards(condition.getKind(), step.getKind())
                && !changed.contains(name)
                && !changed.contains(nameOf(condition.getRightOperand()));
    }

    private static boolean goesTowards(Tree.Kind condition, Tree.Kind step) {
        return switch (condition) {
            case LESS_THAN, LESS_THAN_EQUAL -> step == Tree.Kind.POSTFIX_INCREMENT;
            case GREATER_THAN, GREATER_THAN_EQUAL -> step == Tree.Kind.POSTFIX_DECREMENT;
            default -> false;
        };
    }

    private static Set<String> namesChangedIn(Tree body) {
        Set<String> names = new HashSet<>();
        new TreeScanner<Void, Void>() {
            @Override
            public Void visitAssignment(AssignmentTree tree, Void none) {
                names.add(nameOf(tree.getVariable()));
                return super.visitAssignment(tree, none);
            }

            @Override
            public Void visitCompoundAssignment(CompoundAssignmentTree tree, Void none) {
                names.add(nameOf(tree.getVariable()));
                return super.visitCompoundAssignment(tree, none);
            }

            // Some of these change nothing, but no bound is named in them.
            @Override
            public Void visitUnary(UnaryTree tree, Void none) {
                names.add(nameOf(tree.getExpression()));
                return super.visitUnary(tree, none);
            }
        }.scan(body, null);
        return names;
    }

    /** The last part of a name, or all of what is none. */
    private static String nameOf(ExpressionTree tree) {
        if (tree instanceof IdentifierTree identifier) {
            return identifier.getName().toString();
        }
        if (tree instanceof MemberSelectTree select) {
            return select.getIdentifier().toString();
        }
        return tree.toString();
    }
}
