import com.sun.source.tree.CompilationUnitTree;
import com.sun.source.tree.MethodInvocationTree;
import com.sun.source.tree.MethodTree;
import com.sun.source.tree.NewArrayTree;
import com.sun.source.tree.NewClassTree;
import com.sun.source.util.TreePathScanner;
import com.sun.source.util.Trees;
import java.util.HashMap;
import java.util.HashSet;
import java.util.Map;
import java.util.Set;
import javax.lang.model.element.Element;
import javax.lang.model.element.ElementKind;

/** The rules of the language for who calls whom and who makes objects. */
final class CallRules extends TreePathScanner<Void, Void> {
    private static final int MOST_DEPTH = 8;
    private static final Set<String> LIBRARY =
            Set.of("java.lang.Integer", "java.lang.Long", "java.lang.Math");

    private final Answers answers;
    private final CompilationUnitTree unit;
    private final Trees trees;
    private final Map<Element, Set<Element>> calls = new HashMap<>();
    private Element caller = null;

    CallRules(Answers answers, CompilationUnitTree unit, Trees trees) {
        this.answers = answers;
        this.unit = unit;
        this.trees = trees;
    }

    void read() {
        scan(unit, null);
        for (Element method : calls.keySet()) {
            answers.dueAtMost("rules 8 and 11: calls from " + method, depthFrom(method, 1),
                    MOST_DEPTH);
        }
    }

    /** A recursion goes deeper than any bound, so it is cut off just above the one allowed. */
    private int depthFrom(Element method, int depth) {
        int deepest = depth;
        if (depth <= MOST_DEPTH) {
            for (Element called : calls.getOrDefault(method, Set.of())) {
                deepest = Math.max(deepest, depthFrom(called, depth + 1));
            }
        }
        return deepest;
    }

    @Override
    public Void visitMethod(MethodTree tree, Void none) {
        caller = trees.getElement(getCurrentPath());
        calls.put(caller, new HashSet<>());
        super.visitMethod(tree, none);
        caller = null;
        return null;
    }

    /** Rule 4: "the static functions of Integer, Long and Math .. none .. whose name ends in Exact". */
    @Override
    public Void visitMethodInvocation(MethodInvocationTree tree, Void none) {
        Element called = trees.getElement(getCurrentPath());
        String owner = called.getEnclosingElement().toString();
        boolean isOwn = owner.startsWith("SelfIndexImage");
        boolean isFunction = LIBRARY.contains(owner)
                && !called.getSimpleName().toString().endsWith("Exact");
        // Every constructor calls that of Object.
        boolean isObject = called.getKind() == ElementKind.CONSTRUCTOR;
        answers.due("rule 4: " + owner + "." + called, isOwn || isFunction || isObject, true);
        if (isOwn) {
            addCall(called);
        }
        return super.visitMethodInvocation(tree, none);
    }

    // The first value of a field has no caller.
    private void addCall(Element called) {
        if (caller != null) {
            calls.get(caller).add(called);
        }
    }

    @Override
    public Void visitNewClass(NewClassTree tree, Void none) {
        dueInConstructor(tree.toString());
        answers.due("rule 2: a body in " + tree, tree.getClassBody() != null, false);
        addCall(trees.getElement(getCurrentPath()));
        return super.visitNewClass(tree, none);
    }

    @Override
    public Void visitNewArray(NewArrayTree tree, Void none) {
        dueInConstructor(tree.toString());
        return super.visitNewArray(tree, none);
    }

    /** Rule 12: "keep it small": all that is made is made with the object. */
    private void dueInConstructor(String made) {
        boolean isConstructor = caller != null && caller.getKind() == ElementKind.CONSTRUCTOR;
        answers.due("rule 12: " + made + " in a constructor", isConstructor, true);
    }
}
