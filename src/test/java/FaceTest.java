import java.io.IOException;
import java.lang.reflect.Constructor;
import java.lang.reflect.Field;
import java.lang.reflect.Method;
import java.lang.reflect.Modifier;
import java.nio.file.Files;
import java.nio.file.Path;
import java.util.ArrayList;
import java.util.Collections;
import java.util.List;
import java.util.Set;
import java.util.TreeSet;
import java.util.regex.Matcher;
import java.util.regex.Pattern;

/** The document's face and those rules of LANGUAGE.md that can be seen in the class or its text. */
public final class FaceTest {
    private static final Check CHECK = new Check();
    private static final String[] FACE = {
        "int truth(int)", "int kettle(int,int)", "int witness(int)", "int of(int,int)", "int set(int,int,int)",
        "int turn(int,int)", "int as(int,int)", "int heats(int,int)", "int ask(int,int)", "int swap(int,int)",
        "int minutes(int)", "int now(int)", "int on(int,int)", "int then(int,int,int)", "int boils()", "int doubts(int)",
        "int worst(int)", "int turns(int)", "int sure(int,int)", "int water(int,int)", "int kind(int,int)",
        "int says(int,int)", "int fact(int)", "int feed(int,int)", "int wipe()", "int inquest()", "int sheet(int,int,int)",
        "long write(int,int,long)", "int copy(int,int,int,int,int)", "int lays(int)", "int book(int)", "int read(int,int)",
        "int image()", "int undo()", "int tear()", "int count(int)", "int status(int)",
    };
    private static final String[] FORBIDDEN = {
        "throw", "throws", "try", "catch", "finally", "synchronized", "assert", "import", "package", "protected", "volatile",
        "native", "goto", "Object", "System.out", "Random", "Thread", "hashCode", "toString", "Exact",
    };

    private static final Pattern HEADING = Pattern.compile("Ahead of the calls (.*?) the interface says: (---- .*?)\\.\n");

    public static void main(String[] args) throws IOException {
        String source = Files.readString(Path.of("src/main/java/KettleInquest.java"));
        String document = Files.readString(Path.of("../shared/DOC.md"));
        face();
        signatures(document, source);
        headings(document, source);
        membersInside();
        text(source);
        CHECK.finish("FaceTest");
    }

    /** With the names of their parameters and in their order, as the document writes them. */
    private static void signatures(String document, String source) {
        int from = document.indexOf("```java", document.indexOf("## The public face"));
        String block = document.substring(document.indexOf('\n', from), document.indexOf("```", from + 3));
        int last = -1;
        int seen = 0;
        for (String line : block.split("\n")) {
            if (!line.isBlank() && !line.equals("}")) {
                String due = "\n" + line.replace(";", " {") + "\n";
                int at = source.indexOf(due);
                CHECK.holds("face: it stands in the class, in its order: " + line.trim(), at > last);
                last = at;
                seen++;
            }
        }
        CHECK.due("face: lines seen in the document", FACE.length + 2, seen);
    }

    private static void headings(String document, String source) {
        Matcher m = HEADING.matcher(document);
        int seen = 0;
        while (m.find()) {
            for (String name : m.group(1).replace("`", "").split(", ")) {
                int call = Math.max(source.indexOf("public int " + name + "("), source.indexOf("public long " + name + "("));
                int ahead = source.lastIndexOf("// ---- ", Math.max(call, 0));
                String due = "// " + m.group(2) + "\n";
                CHECK.holds("face: ahead of " + name + " stands " + m.group(2), ahead >= 0 && source.startsWith(due, ahead));
                seen++;
            }
        }
        CHECK.due("face: calls seen under headings", FACE.length, seen);
    }

    private static String signature(Method m) {
        List<String> types = new ArrayList<>();
        for (Class<?> type : m.getParameterTypes()) {
            types.add(type.getSimpleName());
        }
        return m.getReturnType().getSimpleName() + " " + m.getName() + "(" + String.join(",", types) + ")";
    }

    private static void face() {
        Class<?> face = KettleInquest.class;
        CHECK.holds("face: public and final", Modifier.isPublic(face.getModifiers()) && Modifier.isFinal(face.getModifiers()));
        Set<String> due = new TreeSet<>();
        Collections.addAll(due, FACE);
        Set<String> got = new TreeSet<>();
        for (Method m : face.getDeclaredMethods()) {
            if (!Modifier.isPrivate(m.getModifiers())) {
                CHECK.holds("face: public, of an object: " + m, m.getModifiers() == Modifier.PUBLIC);
                got.add(signature(m));
            }
        }
        CHECK.holds("face: the methods are " + got, due.equals(got));
        for (Field f : face.getDeclaredFields()) {
            CHECK.holds("face: private: " + f, Modifier.isPrivate(f.getModifiers()));
        }
        Constructor<?>[] made = face.getDeclaredConstructors();
        CHECK.due("face: one constructor", 1, made.length);
        CHECK.holds("face: it is public and plain", made[0].getModifiers() == Modifier.PUBLIC && made[0].getParameterCount() == 0);
    }

    private static void membersInside() {
        Set<String> names = new TreeSet<>();
        for (String signature : FACE) {
            names.add(signature.substring(signature.indexOf(' ') + 1, signature.indexOf('(')));
        }
        for (Class<?> inside : KettleInquest.class.getDeclaredClasses()) {
            CHECK.holds("rule 2: static: " + inside, Modifier.isStatic(inside.getModifiers()));
            CHECK.holds("rule 1: not public: " + inside, !Modifier.isPublic(inside.getModifiers()));
            for (Method m : inside.getDeclaredMethods()) {
                CHECK.holds("rule 1: no name of the face: " + m, !names.contains(m.getName()));
                CHECK.holds("rule 11: at most seven parameters: " + m, m.getParameterCount() <= 7);
            }
        }
        for (Method m : KettleInquest.class.getDeclaredMethods()) {
            CHECK.holds("rule 1: no name of the face: " + m, !Modifier.isPrivate(m.getModifiers()) || !names.contains(m.getName()));
        }
    }

    private static void text(String text) {
        for (int i = 0; i < text.length(); i++) {
            if (text.charAt(i) > 126) {
                CHECK.holds("rule 4: signs 1 to 127, not at " + i, false);
            }
        }
        String code = text.replaceAll("(?s)/\\*.*?\\*/", " ").replaceAll("//[^\n]*", " ").replaceAll("\"[^\"]*\"", "\"\"");
        for (String word : FORBIDDEN) {
            CHECK.holds("rules 4, 6 and 13: no " + word, !code.matches("(?s).*\\b" + word.replace(".", "\\.") + "\\b.*"));
        }
        CHECK.holds("rule 2: no lambda, no method reference", !code.contains("->") && !code.contains("::"));
    }
}
