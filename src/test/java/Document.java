import java.io.IOException;
import java.nio.file.Files;
import java.nio.file.Path;
import java.util.regex.Matcher;
import java.util.regex.Pattern;

/** The document's text, to see that a test quotes each of its words. */
final class Document {
    private static final int PROMISES = 38;
    private static final Pattern WORD = Pattern.compile("[A-Za-z0-9]+");

    private final String terms;
    private final String[] promises = new String[PROMISES + 1];

    Document(Path path) throws IOException {
        String text = Files.readString(path);
        String part = section(text, "## Terms");
        terms = plain(part.substring(0, part.indexOf("Ahead of the calls")).replaceAll("(?m)^[0-9]\\. ", ""));
        for (int n = 1; n <= PROMISES; n++) {
            String promise = section(text, "## Promise " + n + ":");
            promises[n] = plain(promise.substring(promise.indexOf("`: ") + 3));
        }
    }

    private static String section(String text, String heading) {
        int from = text.indexOf(heading);
        int to = text.indexOf("\n## ", from + 1);
        return text.substring(from + heading.length(), to < 0 ? text.length() : to);
    }

    private static String plain(String part) {
        return part.replace("```text", " ").replace("```", " ").replaceAll("\\s+", " ").trim();
    }

    void compare(Edges edges) {
        for (Edge e : edges.all) {
            edges.check.holds(e.name() + " stands in the document", terms.contains(e.words) || promises[e.promise].contains(e.words));
        }
        everyWordIsQuoted(edges, 0, terms);
        for (int n = 1; n <= PROMISES; n++) {
            everyWordIsQuoted(edges, n, promises[n]);
        }
    }

    private static void everyWordIsQuoted(Edges edges, int promise, String text) {
        boolean[] isQuoted = quoted(edges, promise, text);
        Matcher m = WORD.matcher(text);
        while (m.find()) {
            boolean is = isQuoted[m.start()] && isQuoted[m.end() - 1];
            edges.check.holds("a test quotes " + m.group() + " of promise " + promise + " at " + m.start(), is);
        }
    }

    /** The terms (promise 0) may be quoted with any promise. */
    private static boolean[] quoted(Edges edges, int promise, String text) {
        boolean[] is = new boolean[text.length()];
        for (Edge e : edges.all) {
            int at = promise == 0 || promise == e.promise ? text.indexOf(e.words) : -1;
            while (at >= 0) {
                for (int i = 0; i < e.words.length(); i++) {
                    is[at + i] = true;
                }
                at = text.indexOf(e.words, at + 1);
            }
        }
        return is;
    }
}
