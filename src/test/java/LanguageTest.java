import java.nio.file.Files;
import java.nio.file.Path;
import java.util.regex.Matcher;
import java.util.regex.Pattern;

/** What of ../shared/LANGUAGE.md can be seen in the text of the class alone. */
public final class LanguageTest {
    private static final String[] FORBIDDEN = {
        "\\bthrow\\b", "\\bthrows\\b", "\\btry\\b", "\\bcatch\\b", "\\bsynchronized\\b", "\\bassert\\b", "->", "::", "\\bimport\\b",
        "\\bpackage\\b", "\\brecord\\b", "Exact\\(", "\\bSystem\\.", "\\bdouble\\b", "\\bfloat\\b", "\\bhashCode\\b", "\\btoString\\b",
        "\\bequals\\b", "\\bString\\b", "\\bObject\\b", "\\bstatic \\{"
    };

    public static void main(String[] args) throws Exception {
        String text = Files.readString(Path.of(args.length > 0 ? args[0] : "src/main/java/QuotaMeter.java"));
        String code = text.replaceAll("(?s)/\\*.*?\\*/", "").replaceAll("//.*", "");
        Check.holds("the class is there", code.contains("public final class QuotaMeter {"));
        for (String word : FORBIDDEN) {
            Check.holds("no " + word, !Pattern.compile(word).matcher(code).find());
        }
        shortMethods(code);
        Check.end();
    }

    private static void shortMethods(String code) {
        Matcher head = Pattern.compile("\\n( +)[\\w\\[\\] ]+\\([^;{}]*\\) \\{\\n").matcher(code);
        int methods = 0;
        while (head.find()) {
            int end = code.indexOf("\n" + head.group(1) + "}\n", head.end() - 1);
            long lines = code.substring(head.start(), Math.max(head.start(), end)).lines().count();
            Check.holds("at most sixty lines:" + head.group().strip(), end > 0 && lines <= 60);
            methods++;
        }
        Check.holds("methods were found", methods > 23);
    }
}
