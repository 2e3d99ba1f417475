import java.lang.reflect.Method;
import java.nio.file.Files;
import java.nio.file.Path;
import java.util.Arrays;
import java.util.Comparator;
import java.util.regex.Matcher;
import java.util.regex.Pattern;

/**
 * Every boundary that the document names, sentence by sentence: the value just inside, the value just outside, and that a
 * refused call changes nothing. It also looks whether a sentence that names a boundary was left out.
 */
public final class BoundaryTest {
    private static final Path DOCUMENT = Path.of("../shared/DOC.md");
    private static final Class<?>[] TESTS = {BoundaryUsage.class, BoundaryQuota.class, BoundaryPrice.class, BoundaryInvoice.class};
    /** A number or a refusal stands in each sentence that names a boundary. */
    private static final Pattern BOUNDARY = Pattern.compile("\\d|BAD|FULL|EARLY|LATE|DUPLICATE|REFUSED");

    public static void main(String[] args) throws Exception {
        for (Class<?> tests : TESTS) {
            tryAll(tests);
        }
        for (int promise = 1; promise <= 24; promise++) {
            Check.holds("promise " + promise + " has a test", Edge.PROMISES.contains(promise));
        }
        if (Files.isReadable(DOCUMENT)) {
            compareWithDocument(Files.readString(DOCUMENT).replaceAll("\\s+", " "));
        } else {
            System.out.println("the document is not here: the sentences are not looked up");
        }
        Check.end();
    }

    /** Finds the tests by their names, so that none can be forgotten. */
    private static void tryAll(Class<?> tests) throws ReflectiveOperationException {
        Method[] methods = tests.getDeclaredMethods();
        Arrays.sort(methods, Comparator.comparing(Method::getName));
        for (Method method : methods) {
            if (!method.isSynthetic() && method.getName().startsWith("promise")) {
                method.invoke(null);
            }
        }
    }

    private static void compareWithDocument(String document) {
        boolean[] isTested = new boolean[document.length()];
        for (String sentence : Edge.SENTENCES) {
            int at = document.indexOf(sentence);
            Check.holds("the document says '" + sentence + "'", at >= 0);
            for (; at >= 0; at = document.indexOf(sentence, at + 1)) {
                Arrays.fill(isTested, at, at + sentence.length(), true);
            }
        }
        int from = Math.max(0, document.indexOf("## Terms"));
        int to = Math.max(from, document.indexOf("## Not promised"));
        Check.holds("the document has terms and promises", to > from);
        StringBuilder rest = new StringBuilder();
        for (int i = from; i < to; i++) {
            rest.append(isTested[i] ? '|' : document.charAt(i));
        }
        String untested = rest.toString().replaceAll("## Promise \\d+", "").replaceAll("\\|+", "|");
        Matcher left = BOUNDARY.matcher(untested);
        while (left.find()) {
            String around = untested.substring(Math.max(0, left.start() - 30), Math.min(untested.length(), left.end() + 30));
            Check.holds("no test names this boundary: " + around, false);
        }
    }
}
