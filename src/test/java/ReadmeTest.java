import java.lang.reflect.Method;
import java.lang.reflect.Modifier;
import java.net.URL;
import java.net.URLClassLoader;
import java.nio.file.Files;
import java.nio.file.Path;
import java.nio.file.attribute.PosixFilePermission;
import java.util.ArrayList;
import java.util.List;
import java.util.Set;
import java.util.TreeSet;
import java.util.regex.Matcher;
import java.util.regex.Pattern;
import java.util.stream.Collectors;
import java.util.stream.Stream;
import javax.tools.ToolProvider;

/** What README.md says is so: its example answers what it says, and the calls and tests that it names are those there are. */
public final class ReadmeTest {
    private static final Path DOCUMENT = Path.of("../shared/DOC.md");
    /** A call, what it is kept in, and what it answers. */
    private static final Pattern CLAIM = Pattern.compile("(?:(?:int|long) (\\w+) = )?(meter\\..*);\\s*// (-?\\d+|[A-Z]+)(?::.*)?");
    private static final Pattern ROW = Pattern.compile("(?m)^\\| (\\d+) \\| `(\\w+)\\(([^)]*)\\)` \\| .* \\|$");
    private static final String FIRST_LINE = "QuotaMeter meter = new QuotaMeter();";
    private static final int LONGEST_RUN = 512;

    public static void main(String[] args) throws Exception {
        String readme = Files.readString(Path.of("README.md"));
        answersAreSo(block(readme, "java"));
        callsAreThose(readme);
        testsAreThose(readme);
        Check.holds("the command is .ci/run", block(readme, "sh").equals(List.of(".ci/run")));
        boolean isExecutable = Files.getPosixFilePermissions(Path.of(".ci/run")).contains(PosixFilePermission.OWNER_EXECUTE);
        Check.holds("the command is executable", isExecutable);
        Check.end();
    }

    private static List<String> block(String readme, String language) {
        Matcher found = Pattern.compile("(?ms)^```" + language + "\\n(.*?)^```$").matcher(readme);
        List<String> lines = new ArrayList<>();
        int blocks = 0;
        while (found.find()) {
            found.group(1).lines().map(String::strip).forEach(lines::add);
            blocks++;
        }
        Check.due("blocks of " + language, 1, blocks);
        return lines;
    }

    /** The lines are compiled as they stand, each call's answer being kept beside what its comment says. */
    private static void answersAreSo(List<String> example) throws Exception {
        List<String> calls = new ArrayList<>();
        StringBuilder body = new StringBuilder();
        for (String line : example) {
            Matcher claim = CLAIM.matcher(line);
            if (claim.matches()) {
                String answer = claim.group(1) == null ? claim.group(2) : claim.group(1);
                String want = claim.group(3).matches("[A-Z]+") ? "QuotaMeter." + claim.group(3) : claim.group(3) + "L";
                body.append(claim.group(1) == null ? "" : line.replaceAll("//.*", "")).append('\n');
                body.append("answers[").append(calls.size()).append("] = new long[] {").append(want).append(", ").append(answer).append("};\n");
                calls.add(claim.group(2));
            } else {
                Check.holds("this line says what it answers: " + line, line.isEmpty() || line.startsWith("//") || line.equals(FIRST_LINE));
                body.append(line).append('\n');
            }
        }
        Check.holds("the example has calls, and no more than an object is used for", calls.size() > 20 && calls.size() <= LONGEST_RUN);
        long[][] answers = run("public final class Example {\n    public static void go(long[][] answers) {\n" + body + "    }\n}\n", calls.size());
        for (int i = 0; i < calls.size(); i++) {
            Check.due("README.md: " + calls.get(i), answers[i][0], answers[i][1]);
        }
    }

    private static long[][] run(String text, int calls) throws Exception {
        Path directory = Files.createTempDirectory("readme");
        Path source = Files.writeString(directory.resolve("Example.java"), text);
        long[][] answers = new long[calls][2];
        String path = System.getProperty("java.class.path");
        int wrong = ToolProvider.getSystemJavaCompiler().run(null, null, null, "-cp", path, "-d", directory.toString(), source.toString());
        Check.due("the example compiles", 0, wrong);
        if (wrong == 0) {
            try (URLClassLoader loader = new URLClassLoader(new URL[] {directory.toUri().toURL()})) {
                loader.loadClass("Example").getMethod("go", long[][].class).invoke(null, (Object) answers);
            }
        }
        Files.deleteIfExists(directory.resolve("Example.class"));
        Files.delete(source);
        Files.delete(directory);
        return answers;
    }

    private static void callsAreThose(String readme) throws Exception {
        Set<String> face = new TreeSet<>();
        for (Method method : QuotaMeter.class.getDeclaredMethods()) {
            if (Modifier.isPublic(method.getModifiers())) {
                face.add(method.getName() + " of " + method.getParameterCount());
            }
        }
        String document = Files.isReadable(DOCUMENT) ? Files.readString(DOCUMENT) : null;
        Set<String> named = new TreeSet<>();
        Matcher row = ROW.matcher(readme);
        while (row.find()) {
            String[] names = row.group(3).split(", ");
            named.add(row.group(2) + " of " + names.length);
            if (document != null) {
                String promise = "## Promise " + row.group(1) + ": " + row.group(2) + "\n";
                Check.holds(row.group() + " has the number of its promise", document.contains(promise));
                Check.holds(row.group() + " names its parameters as the document does", namesAre(document, row.group(2), names));
            }
        }
        Check.holds("the calls " + named + " are those of the class " + face, named.equals(face));
    }

    private static boolean namesAre(String document, String call, String[] names) {
        String written = "\\w+ " + Stream.of(names).collect(Collectors.joining(", \\w+ "));
        return Pattern.compile("(?m)^    public \\w+ " + call + "\\(" + written + "\\);$").matcher(document).find();
    }

    private static void testsAreThose(String readme) throws Exception {
        Set<String> there = new TreeSet<>();
        try (Stream<Path> files = Files.list(Path.of("src/test/java"))) {
            files.map(f -> f.getFileName().toString().replace(".java", "")).forEach(there::add);
        }
        Set<String> named = new TreeSet<>();
        Matcher name = Pattern.compile("`([A-Z]\\w+)`").matcher(readme.substring(readme.indexOf("## Tests")));
        while (name.find()) {
            named.add(name.group(1));
            Check.holds(name.group(1) + ", which README.md names, is there", there.contains(name.group(1)));
        }
        for (String file : there) {
            Check.holds(file + " is named in README.md", named.contains(file) || !file.endsWith("Test"));
        }
    }
}
