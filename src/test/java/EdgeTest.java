import java.io.IOException;
import java.nio.file.Files;
import java.nio.file.Path;

/** Each sentence of the document that names a boundary case, by a test of its own; and that none was forgotten. */
public final class EdgeTest {
    private static final Path DOCUMENT = Path.of("../shared/DOC.md");

    public static void main(String[] args) throws IOException {
        Edges edges = new Edges();
        TermsEdges.all(edges);
        WitnessEdges.all(edges);
        MinuteEdges.all(edges);
        BestEdges.all(edges);
        TextEdges.all(edges);
        SheetEdges.all(edges);
        ImageEdges.all(edges);
        edges.check.holds("the document is where it should be", Files.isReadable(DOCUMENT));
        if (Files.isReadable(DOCUMENT)) {
            new Document(DOCUMENT).compare(edges);
        }
        System.out.println("EdgeTest: " + edges.all.size() + " boundary cases");
        edges.check.finish("EdgeTest");
    }
}
