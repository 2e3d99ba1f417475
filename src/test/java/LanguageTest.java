import com.sun.source.tree.CompilationUnitTree;
import com.sun.source.util.JavacTask;
import java.nio.charset.StandardCharsets;
import java.nio.file.Files;
import java.nio.file.Path;
import java.util.List;
import java.util.Map;
import java.util.Set;
import java.util.TreeSet;
import javax.tools.JavaCompiler;
import javax.tools.StandardJavaFileManager;
import javax.tools.ToolProvider;

/**
 * The rules of ../shared/LANGUAGE.md that can be seen in the class's own tree, as the compiler reads it. Rules 7 and 13
 * are seen in part: that no call throws or fails to end is tried by the other tests, which end if one does.
 */
public final class LanguageTest {
    private static final int DEEPEST_CALLS = 8;
    private static final int MOST_CLASSES = 12;

    public static void main(String[] args) throws Exception {
        Path file = Path.of(args.length > 0 ? args[0] : "src/main/java/QuotaMeter.java");
        String text = Files.readString(file, StandardCharsets.UTF_8);
        Check.holds("rule 3: characters 0 to 255 alone", text.chars().allMatch(c -> c < 256));
        Check.holds("rule 3: no texts are in use, so none are joined or compared", text.indexOf('"') < 0);
        LanguageScan scan = read(file);
        Check.holds("rule 11: some twelve classes at most", scan.classes.size() <= MOST_CLASSES);
        Check.holds("classes and methods were found", scan.classes.size() > 1 && scan.calls.size() > 24);
        for (String method : scan.calls.keySet()) {
            int depth = depthFrom(method, scan.calls, new TreeSet<>());
            Check.holds("rules 8 and 11: no recursion, eight calls deep at most: " + method, depth <= DEEPEST_CALLS);
        }
        Check.end();
    }

    private static LanguageScan read(Path file) throws Exception {
        JavaCompiler compiler = ToolProvider.getSystemJavaCompiler();
        try (StandardJavaFileManager files = compiler.getStandardFileManager(null, null, StandardCharsets.UTF_8)) {
            List<String> options = List.of("--release", "17", "-proc:none");
            JavacTask task = (JavacTask) compiler.getTask(null, files, null, options, null, files.getJavaFileObjects(file));
            CompilationUnitTree unit = task.parse().iterator().next();
            task.analyze();
            LanguageScan scan = new LanguageScan(task, unit);
            scan.scan(unit, null);
            return scan;
        }
    }

    /** How many calls stand open at once at most, this one too; more than any bound if it comes back to itself. */
    private static int depthFrom(String method, Map<String, Set<String>> calls, Set<String> open) {
        if (!open.add(method)) {
            return DEEPEST_CALLS + 1;
        }
        int deepest = 0;
        for (String next : calls.getOrDefault(method, Set.of())) {
            deepest = Math.max(deepest, depthFrom(next, calls, open));
        }
        open.remove(method);
        return deepest + 1;
    }
}
