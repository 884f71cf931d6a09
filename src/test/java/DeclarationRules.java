import com.sun.source.tree.ClassTree;
import com.sun.source.tree.CompilationUnitTree;
import com.sun.source.tree.LineMap;
import com.sun.source.tree.MethodTree;
import com.sun.source.tree.ModifiersTree;
import com.sun.source.tree.Tree;
import com.sun.source.tree.TypeCastTree;
import com.sun.source.tree.VariableTree;
import com.sun.source.util.SourcePositions;
import com.sun.source.util.TreePathScanner;
import com.sun.source.util.Trees;
import java.util.HashSet;
import java.util.Set;
import javax.lang.model.element.Element;
import javax.lang.model.element.Modifier;

/** The rules of the language for classes, fields, methods and types. */
final class DeclarationRules extends TreePathScanner<Void, Void> {
    private static final int MOST_PARAMETERS = 7;
    private static final int MOST_LINES = 60;
    private static final int MOST_CLASSES = 12;
    private static final int MOST_FIELDS = 20;
    private static final Set<String> CONSTANTS = Set.of("int", "long", "boolean", "char");
    private static final Set<String> PLAIN_TYPES =
            Set.of("int", "long", "boolean", "char", "void", "int[]", "long[]");

    private final Answers answers;
    private final CompilationUnitTree unit;
    private final Trees trees;
    private int classes = 0;

    DeclarationRules(Answers answers, CompilationUnitTree unit, Trees trees) {
        this.answers = answers;
        this.unit = unit;
        this.trees = trees;
    }

    void read() {
        scan(unit, null);
        answers.dueAtMost("rule 11: classes", classes, MOST_CLASSES);
    }

    @Override
    public Void visitClass(ClassTree tree, Void none) {
        classes++;
        boolean isOuter = getCurrentPath().getParentPath().getLeaf() == unit;
        boolean isInside = getCurrentPath().getParentPath().getLeaf() instanceof ClassTree
                && has(tree.getModifiers(), Modifier.STATIC);
        String name = tree.getSimpleName().toString();
        answers.due("rule 2: " + name + " is static inside a class", isOuter || isInside, true);
        dueFewFields(name, tree);
        dueNamesApart(name, tree);
        return super.visitClass(tree, none);
    }

    /** Rule 11: "a class some twenty fields beside its constants"; rule 5: no "initialiser block". */
    private void dueFewFields(String name, ClassTree tree) {
        int fields = 0;
        for (Tree member : tree.getMembers()) {
            answers.due("rule 5: a block in " + name, member.getKind() == Tree.Kind.BLOCK, false);
            if (member instanceof VariableTree field
                    && !has(field.getModifiers(), Modifier.STATIC)) {
                fields++;
            }
        }
        answers.dueAtMost("rule 11: fields of " + name, fields, MOST_FIELDS);
    }

    /** Rule 1: "No private method bears the name of a public one." */
    private void dueNamesApart(String name, ClassTree tree) {
        Set<String> hidden = new HashSet<>();
        Set<String> shown = new HashSet<>();
        for (Tree member : tree.getMembers()) {
            if (member instanceof MethodTree method) {
                boolean isPrivate = has(method.getModifiers(), Modifier.PRIVATE);
                (isPrivate ? hidden : shown).add(method.getName().toString());
            }
        }
        hidden.retainAll(shown);
        answers.dueText("rule 1: private methods with public names in " + name, hidden.toString(),
                "[]");
    }

    /** Rule 5: "Static fields are final: constants of int, long, boolean, char". */
    @Override
    public Void visitVariable(VariableTree tree, Void none) {
        dueType(tree.getType());
        if (has(tree.getModifiers(), Modifier.STATIC)) {
            String name = "rule 5: static " + tree.getName();
            answers.due(name + " is final", has(tree.getModifiers(), Modifier.FINAL), true);
            boolean isConstant = CONSTANTS.contains(tree.getType().toString());
            answers.due(name + " is a constant", isConstant, true);
        }
        return super.visitVariable(tree, none);
    }

    /** Rule 11: "at most seven parameters. Methods stay short (some sixty lines)". */
    @Override
    public Void visitMethod(MethodTree tree, Void none) {
        String name = tree.getName().toString();
        // A constructor has no type.
        if (tree.getReturnType() != null) {
            dueType(tree.getReturnType());
        }
        answers.dueAtMost("rule 11: parameters of " + name, tree.getParameters().size(),
                MOST_PARAMETERS);
        answers.dueAtMost("rule 11: lines of " + name, linesOf(tree), MOST_LINES);
        return super.visitMethod(tree, none);
    }

    /** Rule 6: "a cast only behind the test that makes it safe": none is needed to a class. */
    @Override
    public Void visitTypeCast(TypeCastTree tree, Void none) {
        boolean isNumber = CONSTANTS.contains(tree.getType().toString());
        answers.due("rule 6: " + tree + " is a cast to a number", isNumber, true);
        return super.visitTypeCast(tree, none);
    }

    /** Rule 3: "arrays of these .. of one dimension .. your own classes". */
    private void dueType(Tree type) {
        Element element = trees.getElement(trees.getPath(unit, type));
        boolean isOwn = element != null && element.toString().startsWith("SelfIndexImage.");
        boolean isPlain = PLAIN_TYPES.contains(type.toString());
        answers.due("rule 3: the type " + type, isOwn || isPlain, true);
    }

    private static boolean has(ModifiersTree modifiers, Modifier modifier) {
        return modifiers.getFlags().contains(modifier);
    }

    private int linesOf(MethodTree tree) {
        SourcePositions positions = trees.getSourcePositions();
        LineMap lines = unit.getLineMap();
        long first = lines.getLineNumber(positions.getStartPosition(unit, tree));
        long last = lines.getLineNumber(positions.getEndPosition(unit, tree));
        return (int) (last - first + 1);
    }
}
