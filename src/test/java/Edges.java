import java.io.IOException;
import java.util.BitSet;

/** The sentences that were tested at their edges, by promise. */
final class Edges {
    private static final int PROMISES = 28;

    private final Check check = new Check("EdgesTest");
    private final Document document;
    private final BitSet promises = new BitSet();

    Edges() throws IOException {
        document = Document.read();
    }

    /** A sentence of the document, asked of a new object. */
    Edge of(int promise, String sentence) {
        check.due("promise " + promise + " quotes the document: " + sentence, document.quote(sentence), true);
        promises.set(promise);
        return new Edge(check, "promise " + promise + ", \"" + sentence + "\"", x -> { });
    }

    /** A call that does change something, which the twins have to see. */
    void changes(String what, Edge.Calls scene, Edge.Ask call) {
        check.due("the twins see " + what, Twins.change(scene, call) != null, true);
    }

    void end() {
        for (int promise = 1; promise <= PROMISES; promise++) {
            check.due("promise " + promise + " is tested at its edges", promises.get(promise), true);
        }
        check.due("each word is quoted, but: " + document.unquoted(), document.unquoted().isEmpty(), true);
        check.end();
    }
}
