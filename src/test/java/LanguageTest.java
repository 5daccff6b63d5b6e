import com.sun.source.tree.CompilationUnitTree;
import com.sun.source.util.JavacTask;
import com.sun.source.util.Trees;
import java.io.IOException;
import java.nio.file.Path;
import java.util.List;
import java.util.Set;
import javax.tools.JavaCompiler;
import javax.tools.StandardJavaFileManager;
import javax.tools.ToolProvider;

/** Holds the source to what shared/LANGUAGE.md says and the compiler's view of the source can show. */
public final class LanguageTest {
    private static final Path SOURCE = Path.of("src/main/java/EdgeCampaign.java");
    private static final int MOST_DEPTH = 8;

    public static void main(String[] args) throws IOException {
        Rules rules = read(SOURCE);
        Expect.same("public methods and constructors were found", rules.roots.size(), 13);
        Expect.sameText("rules that are broken", String.join("\n", rules.broken), "");
        for (String root : rules.roots) {
            int depth = depth(rules, root, 1);
            Expect.same(root + " goes " + depth + " calls deep, which is too deep", depth > MOST_DEPTH, false);
        }
        Expect.done();
    }

    private static Rules read(Path source) throws IOException {
        JavaCompiler compiler = ToolProvider.getSystemJavaCompiler();
        try (StandardJavaFileManager files = compiler.getStandardFileManager(null, null, null)) {
            List<String> options = List.of("--release", "17", "-proc:none");
            JavacTask task = (JavacTask) compiler.getTask(null, files, null, options, null, files.getJavaFileObjects(source));
            CompilationUnitTree unit = task.parse().iterator().next();
            task.analyze();
            Rules rules = new Rules(Trees.instance(task), unit, "EdgeCampaign");
            Expect.same("a package line stands in the source", unit.getPackage() != null, false);
            rules.scan(unit, null);
            return rules;
        }
    }

    /** A method that calls itself is told as too deep, since the class has no need of recursion. */
    private static int depth(Rules rules, String method, int level) {
        int deepest = level;
        if (level <= MOST_DEPTH) {
            for (String callee : rules.callees.getOrDefault(method, Set.of())) {
                deepest = Math.max(deepest, depth(rules, callee, level + 1));
            }
        }
        return deepest;
    }
}
