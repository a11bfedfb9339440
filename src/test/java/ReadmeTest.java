import java.io.IOException;
import java.nio.file.Files;
import java.nio.file.Path;
import java.util.ArrayList;
import java.util.List;
import java.util.Set;
import java.util.TreeSet;
import java.util.regex.Matcher;
import java.util.regex.Pattern;
import java.util.stream.Stream;

/** What README.md shows as the use of the class answers so, and its command for the tests is .ci/run. */
public final class ReadmeTest {
    private static final Check CHECK = new Check();
    private static final Path README = Path.of("README.md");
    private static final Path COMMAND = Path.of(".ci/run");

    public static void main(String[] args) throws IOException {
        List<String> lines = Files.readAllLines(README);
        use(lines);
        command(lines);
        testsNamed(String.join("\n", lines));
        CHECK.finish("ReadmeTest");
    }

    private static void use(List<String> lines) throws IOException {
        ReadmeUse use = new ReadmeUse(lines);
        for (String unsaid : use.unanswered()) {
            CHECK.holds(unsaid + " names its answer", false);
        }
        for (String name : ReadmeUse.faceNames()) {
            CHECK.holds("README.md shows " + name, use.shown().contains(name));
        }
        CHECK.holds("README.md makes an object", use.code().contains("new KettleInquest()"));
        for (ReadmeUse.Answer answer : use.run()) {
            CHECK.due(answer.call(), answer.due(), answer.got());
        }
    }

    private static void command(List<String> lines) {
        List<String> commands = new ArrayList<>();
        for (String line : ReadmeUse.blocks(lines, "sh")) {
            if (!line.isBlank()) {
                commands.add(line.trim());
            }
        }
        CHECK.holds("README.md gives one command, .ci/run: " + commands, commands.equals(List.of(".ci/run")));
        CHECK.holds(".ci/run can be run", Files.isRegularFile(COMMAND) && Files.isExecutable(COMMAND));
    }

    /** Those that README.md names and those that .ci/run finds by their names are the same. */
    private static void testsNamed(String readme) throws IOException {
        Set<String> named = new TreeSet<>();
        Matcher m = Pattern.compile("`(\\w+Test)`").matcher(readme);
        while (m.find()) {
            named.add(m.group(1));
        }
        Set<String> there = new TreeSet<>();
        try (Stream<Path> files = Files.list(Path.of("src/test/java"))) {
            files.map(file -> file.getFileName().toString()).filter(name -> name.endsWith("Test.java"))
                .forEach(name -> there.add(name.substring(0, name.length() - ".java".length())));
        }
        CHECK.holds("README.md names the tests that there are: " + named + ", " + there, named.equals(there));
        String run = Files.readString(COMMAND);
        CHECK.holds(".ci/run runs all these", run.contains("src/test/java/*Test.java"));
        CHECK.holds(".ci/run runs the shared tests", run.contains("../shared/tests"));
    }
}
