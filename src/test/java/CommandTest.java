import java.io.IOException;
import java.nio.charset.StandardCharsets;
import java.nio.file.Files;
import java.nio.file.Path;
import java.util.ArrayList;
import java.util.Comparator;
import java.util.List;
import java.util.stream.Stream;

/** That .ci/run runs every test and fails if one fails, tried on small projects that are made for it. */
public final class CommandTest {
    private static final String PASSES = "public final class NAME { public static void main(String[] a) { System.out.println(\"ran NAME\"); } }\n";
    private static final String FAILS = "public final class NAME { public static void main(String[] a) { System.out.println(\"ran NAME\"); System.exit(1); } }\n";
    private static final String BREAKS = "public final class NAME { public static void main(String[] a) { throw new IllegalStateException(\"ran NAME\"); } }\n";
    private static final String IS_NO_JAVA = "public final class NAME { nothing }\n";

    private final String what;
    private final boolean passes;
    private final List<String> due = new ArrayList<>();
    private final Path room;
    private Process process;

    private CommandTest(String what, boolean passes) throws IOException {
        this.what = what;
        this.passes = passes;
        room = Files.createTempDirectory("command");
        file("project/.ci/run", Files.readString(Path.of(".ci/run")));
        file("project/src/main/java/QuotaMeter.java", "public final class QuotaMeter { }\n");
        own("FirstTest", PASSES);
    }

    public static void main(String[] args) throws Exception {
        List<CommandTest> all = List.of(
            new CommandTest("all pass", true).own("SecondTest", PASSES).shared("", "Third", PASSES).shared("more/", "Third", PASSES).says("4 passed, 0 failed"),
            new CommandTest("an own test fails", false).own("ATest", FAILS).shared("", "Third", PASSES).says("2 passed, 1 failed"),
            new CommandTest("an own test throws", false).own("ATest", BREAKS).shared("", "Third", PASSES).says("2 passed, 1 failed"),
            new CommandTest("an own test is no Java", false).own("ATest", IS_NO_JAVA).shared("", "Third", PASSES).says("1 passed, 1 failed"),
            new CommandTest("a shared test fails", false).shared("", "Alone", FAILS).shared("", "Third", PASSES).says("2 passed, 1 failed"),
            new CommandTest("a shared test is no Java", false).shared("", "Alone", IS_NO_JAVA).says("1 passed, 1 failed"),
            new CommandTest("there are no shared tests", false).says("1 passed, 1 failed"));
        for (CommandTest test : all) {
            test.start();
        }
        for (CommandTest test : all) {
            test.end();
        }
        Check.end();
    }

    private void file(String name, String text) throws IOException {
        Path path = room.resolve(name);
        Files.createDirectories(path.getParent());
        Files.writeString(path, text);
    }

    private CommandTest own(String name, String text) throws IOException {
        file("project/src/test/java/" + name + ".java", text.replace("NAME", name));
        return this;
    }

    private CommandTest shared(String directory, String name, String text) throws IOException {
        file("shared/tests/" + directory + name + ".java", text.replace("NAME", name));
        if (!text.equals(IS_NO_JAVA)) {
            due.add("ran " + name);
        }
        return this;
    }

    private CommandTest says(String text) {
        due.add(text);
        return this;
    }

    /** All run at once, and from elsewhere, since the command finds its own way. */
    private void start() throws IOException {
        ProcessBuilder builder = new ProcessBuilder("bash", room.resolve("project/.ci/run").toString());
        builder.directory(room.toFile()).redirectErrorStream(true).redirectOutput(room.resolve("told").toFile());
        process = builder.start();
    }

    private void end() throws Exception {
        boolean hasPassed = process.waitFor() == 0;
        String told = Files.readString(room.resolve("told"), StandardCharsets.UTF_8);
        Check.holds(".ci/run: " + what + ", it " + (passes ? "passes" : "fails") + "; it told\n" + told, hasPassed == passes);
        for (String text : due) {
            Check.holds(".ci/run: " + what + ", it tells '" + text + "'; it told\n" + told, told.contains(text));
        }
        try (Stream<Path> files = Files.walk(room)) {
            for (Path path : files.sorted(Comparator.reverseOrder()).toList()) {
                Files.delete(path);
            }
        }
    }
}
