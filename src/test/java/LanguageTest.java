import com.sun.source.tree.CompilationUnitTree;
import com.sun.source.util.JavacTask;
import com.sun.source.util.Trees;
import java.io.IOException;
import javax.tools.JavaCompiler;
import javax.tools.StandardJavaFileManager;
import javax.tools.ToolProvider;

/**
 * The rules of ../shared/LANGUAGE.md, as far as they can be read off the source. What the class does
 * not need (texts, lists, exceptions, recursion, loops that do not count) is refused here even where
 * the rules would have it, so that their finer parts need no look. That no call throws or fails to
 * end (rule 7) is left to the tests that make the calls.
 */
public final class LanguageTest {
    private static final Answers ANSWERS = new Answers("LanguageTest");
    private static final String SOURCE = "src/main/java/SelfIndexImage.java";

    private LanguageTest() {
    }

    public static void main(String[] args) throws IOException {
        JavaCompiler compiler = ToolProvider.getSystemJavaCompiler();
        try (StandardJavaFileManager files = compiler.getStandardFileManager(null, null, null)) {
            JavacTask task = (JavacTask) compiler.getTask(null, files, null, null, null,
                    files.getJavaFileObjects(SOURCE));
            CompilationUnitTree unit = task.parse().iterator().next();
            task.analyze();
            Trees trees = Trees.instance(task);
            fileHasOneClass(unit);
            new DeclarationRules(ANSWERS, unit, trees).read();
            new StatementRules(ANSWERS, unit).read();
            new CallRules(ANSWERS, unit, trees).read();
        }
        ANSWERS.end();
    }

    /** "The program is one file .. without a package line .. one public class". */
    private static void fileHasOneClass(CompilationUnitTree unit) {
        ANSWERS.due("a package line", unit.getPackage() != null, false);
        ANSWERS.due("imports", unit.getImports().size(), 0);
        ANSWERS.due("classes side by side", unit.getTypeDecls().size(), 1);
    }
}
