import java.io.IOException;
import java.lang.reflect.Method;
import java.net.URL;
import java.net.URLClassLoader;
import java.nio.file.Files;
import java.nio.file.Path;
import java.util.ArrayList;
import java.util.List;
import java.util.Set;
import java.util.TreeSet;
import java.util.regex.Matcher;
import java.util.regex.Pattern;
import javax.tools.JavaCompiler;
import javax.tools.ToolProvider;

/** The Java of README.md as one program: a line "x.ask(0, 1);  // 1: it boils" is a call and the answer that it names. */
final class ReadmeUse {
    /** What a line of README.md calls, the answer that it names, and the one that came. */
    record Answer(String call, long due, long got) { }

    private static final String NAME = "ReadmeProgram";
    private static final Pattern CALL = Pattern.compile("\\b\\w+\\.(\\w+)\\(");
    private static final Pattern ANSWERED = Pattern.compile("(\\s*)(?:int (\\w+) = )?(\\w+\\.(\\w+)\\(.*\\)); *// *([^:]+)(?::.*)?");

    private final List<String> code;
    private final List<String> calls = new ArrayList<>();
    private final List<String> unanswered = new ArrayList<>();
    private final Set<String> shown = new TreeSet<>();
    private final String program;

    ReadmeUse(List<String> readme) {
        code = blocks(readme, "java");
        StringBuilder all = new StringBuilder("public final class " + NAME + " {\n");
        all.append("public static java.util.List<long[]> answers() {\n");
        all.append("java.util.List<long[]> answers = new java.util.ArrayList<>();\n");
        for (String line : code) {
            all.append(translated(line)).append('\n');
        }
        program = all.append("return answers;\n}\n}\n").toString();
    }

    static Set<String> faceNames() {
        Set<String> names = new TreeSet<>();
        for (Method m : KettleInquest.class.getMethods()) {
            if (m.getDeclaringClass() == KettleInquest.class) {
                names.add(m.getName());
            }
        }
        return names;
    }

    static List<String> blocks(List<String> lines, String language) {
        List<String> inside = new ArrayList<>();
        boolean isInside = false;
        for (String line : lines) {
            if (line.startsWith("```")) {
                isInside = !isInside && line.equals("```" + language);
            } else if (isInside) {
                inside.add(line);
            }
        }
        return inside;
    }

    String code() {
        return String.join("\n", code);
    }

    Set<String> shown() {
        return shown;
    }

    List<String> unanswered() {
        return unanswered;
    }

    private String translated(String line) {
        Matcher m = ANSWERED.matcher(line);
        if (m.matches() && faceNames().contains(m.group(4))) {
            shown.add(m.group(4));
            String got = m.group(2) == null ? m.group(3) : m.group(2);
            String made = m.group(2) == null ? "" : "int " + got + " = " + m.group(3) + "; ";
            calls.add(m.group(3));
            return made + "answers.add(new long[] {" + (calls.size() - 1) + ", " + m.group(5) + ", " + got + "});";
        }
        Matcher call = CALL.matcher(line);
        while (call.find()) {
            if (faceNames().contains(call.group(1))) {
                unanswered.add("README.md: " + line.trim());
            }
        }
        return line;
    }

    List<Answer> run() throws IOException {
        Path place = Files.createTempDirectory("readme");
        Path source = place.resolve(NAME + ".java");
        try {
            Files.writeString(source, program);
            JavaCompiler compiler = ToolProvider.getSystemJavaCompiler();
            String known = System.getProperty("java.class.path");
            if (compiler.run(null, null, null, "-cp", known, "-d", place.toString(), source.toString()) != 0) {
                throw new IllegalStateException("the Java of README.md does not compile");
            }
            return answersOf(place);
        } finally {
            Files.deleteIfExists(source);
            Files.deleteIfExists(place.resolve(NAME + ".class"));
            Files.deleteIfExists(place);
        }
    }

    private List<Answer> answersOf(Path place) throws IOException {
        List<Answer> answers = new ArrayList<>();
        try (URLClassLoader loader = new URLClassLoader(new URL[] {place.toUri().toURL()}, ReadmeUse.class.getClassLoader())) {
            for (Object row : (List<?>) loader.loadClass(NAME).getMethod("answers").invoke(null)) {
                long[] answer = (long[]) row;
                answers.add(new Answer("README.md: " + calls.get((int) answer[0]), answer[1], answer[2]));
            }
        } catch (ReflectiveOperationException e) {
            throw new IllegalStateException("the Java of README.md does not run", e);
        }
        return answers;
    }
}
