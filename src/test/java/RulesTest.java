import java.io.IOException;
import java.lang.reflect.Field;
import java.lang.reflect.Modifier;
import java.nio.file.Files;
import java.nio.file.Path;
import java.util.ArrayList;
import java.util.LinkedHashMap;
import java.util.List;
import java.util.Map;
import java.util.Set;
import java.util.TreeSet;
import java.util.regex.Matcher;
import java.util.regex.Pattern;

/** What LANGUAGE.md counts: how long methods are, how deep calls go, how many classes and fields there are. */
public final class RulesTest {
    private static final Check CHECK = new Check();
    private static final int MOST_LINES = 60;
    private static final int DEEPEST = 8;
    private static final int MOST_CLASSES = 12;
    private static final int MOST_FIELDS = 20;
    private static final Pattern METHOD = Pattern.compile("( {4}| {8})(?:public |private |static )*(?!public )[\\w\\[\\]]+ (\\w+)\\(.*\\) \\{");
    private static final Pattern CALLED = Pattern.compile("(new )?\\b(\\w+)\\(");

    /** Bodies by the methods' names, which are all different (else one would hide another from the count). */
    private static final Map<String, List<String>> BODIES = new LinkedHashMap<>();

    public static void main(String[] args) throws IOException {
        readMethods(Files.readAllLines(Path.of("src/main/java/KettleInquest.java")));
        CHECK.due("methods found in the text", methodsThere(), BODIES.size());
        for (Map.Entry<String, List<String>> method : BODIES.entrySet()) {
            CHECK.holds("rule 11: short: " + method.getKey(), method.getValue().size() <= MOST_LINES);
            int depth = depth(method.getKey(), new TreeSet<>());
            CHECK.holds("rules 8 and 11: calls go at most eight deep: " + method.getKey() + " " + depth, depth <= DEEPEST);
        }
        classes();
        staticFields();
        CHECK.finish("RulesTest");
    }

    private static void readMethods(List<String> lines) {
        for (int i = 0; i < lines.size(); i++) {
            Matcher m = METHOD.matcher(lines.get(i));
            if (m.matches()) {
                int end = i + 1;
                while (!lines.get(end).equals(m.group(1) + "}")) {
                    end++;
                }
                CHECK.holds("one method alone is named " + m.group(2), !BODIES.containsKey(m.group(2)));
                BODIES.put(m.group(2), new ArrayList<>(lines.subList(i + 1, end)));
            }
        }
    }

    /** A method that calls itself, by others too, has no end here and so is told as too deep. */
    private static int depth(String name, Set<String> open) {
        if (open.contains(name)) {
            return 1000;
        }
        Set<String> inside = new TreeSet<>(open);
        inside.add(name);
        int deepest = 0;
        for (String line : BODIES.get(name)) {
            Matcher m = CALLED.matcher(line.replaceAll("//.*|\"[^\"]*\"", ""));
            while (m.find()) {
                if (m.group(1) == null && BODIES.containsKey(m.group(2))) {
                    deepest = Math.max(deepest, depth(m.group(2), inside));
                }
            }
        }
        return deepest + 1;
    }

    private static List<Class<?>> allClasses() {
        List<Class<?>> all = new ArrayList<>(List.of(KettleInquest.class.getDeclaredClasses()));
        all.add(KettleInquest.class);
        return all;
    }

    private static int methodsThere() {
        int methods = 0;
        for (Class<?> one : allClasses()) {
            methods += one.getDeclaredMethods().length;
        }
        return methods;
    }

    private static void classes() {
        List<Class<?>> all = allClasses();
        CHECK.holds("rule 11: classes", all.size() <= MOST_CLASSES);
        for (Class<?> one : all) {
            int fields = 0;
            for (Field f : one.getDeclaredFields()) {
                fields += Modifier.isStatic(f.getModifiers()) ? 0 : 1;
            }
            CHECK.holds("rule 11: fields of " + one, fields <= MOST_FIELDS);
        }
    }

    private static void staticFields() {
        Set<Class<?>> allowed = Set.of(int.class, long.class, boolean.class, char.class, String.class,
            int[].class, long[].class, char[].class, byte[].class);
        for (Class<?> one : allClasses()) {
            for (Field f : one.getDeclaredFields()) {
                boolean isConstant = Modifier.isFinal(f.getModifiers()) && allowed.contains(f.getType());
                CHECK.holds("rule 5: a constant: " + f, !Modifier.isStatic(f.getModifiers()) || isConstant);
            }
        }
    }
}
