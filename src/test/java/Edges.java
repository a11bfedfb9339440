import java.util.ArrayList;
import java.util.List;

/** The boundary cases of the document, each with its promise's number and the words that name it. */
final class Edges {
    /** Somebody, a tape, an image and sheets, so that a change by a refused call would show. */
    static final String COURT = "truth 90; witness 0; witness 1; witness 5; set 0 1 15; set 0 2 85; set 1 1 255; set 2 3 7; kettle 0 11;"
        + "minutes 2; image; kettle 1 33; kettle 2 30; minutes 3; set 1 2 3; sheet 0 8 3; write 0 0 5; write 0 2 -7; sheet 1 16 2;"
        + "write 1 1 300; sheet 2 64 2; write 2 0 2;" + Edge.feeds("true 0");
    static final String EIGHT = "witness 0; witness 1; witness 2; witness 3; witness 4; witness 5; witness 0; witness 1;";
    static final String ORDER = "Each act tells its findings in the order in which they are asked";

    final List<Edge> all = new ArrayList<>();
    final Check check = new Check();

    Edge at(int promise, String words) {
        Edge edge = new Edge(promise, words, check);
        all.add(edge);
        return edge;
    }

    /** The calls for one witness, number 0. */
    static String one(int kind, int knows, int says, int sure) {
        return "witness " + kind + "; set 0 1 " + knows + "; set 0 2 " + says + "; set 0 3 " + sure + ";";
    }
}
