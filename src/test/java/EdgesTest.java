import java.io.IOException;

/**
 * Promises 1 to 28, sentence by sentence: the last input that is taken, the first that is not, STATUS and answer of
 * the refused call, and that it changes nothing else. Every sentence of the document has to be quoted by a test.
 */
public final class EdgesTest {
    public static void main(String[] args) throws IOException {
        Edges edges = new Edges();
        twins(edges);
        TrayEdges.run(edges);
        PollEdges.run(edges);
        SheetEdges.run(edges);
        LandEdges.run(edges);
        OfficialEdges.run(edges);
        edges.end();
    }

    /** The twins see each kind of change, so that "changes nothing else" says something. */
    private static void twins(Edges edges) {
        Edge.Calls busy = Scenes::busy;
        edges.changes("a tray laid", busy, x -> x.tray(3, 0, 0));
        edges.changes("a tray of another length", busy, x -> x.tray(1, 3, 3));
        edges.changes("a tray of another sort", busy, x -> x.tray(1, 2, 2));
        edges.changes("a number written", busy, x -> x.write(2, 2, 9));
        edges.changes("numbers poured", busy, x -> x.pour(2, 1, 2, 2, 1));
        edges.changes("parties", x -> x.poll(0, 5), x -> x.parties(3));
        edges.changes("a poll", busy, x -> x.poll(3, 1));
        edges.changes("a draw", busy, x -> x.draw(2, 1, 1));
        edges.changes("a draw of the same polls by another seed", busy, x -> x.draw(0, 3, 3));
        edges.changes("a sheet of the latest minute", busy, x -> x.sheet(6, 0, 7));
        edges.changes("a sheet of a later minute", busy, x -> x.sheet(6, 0, 8));
        edges.changes("a habit", busy, x -> x.habit(2, 3, true));
        edges.changes("a habit no more", busy, x -> x.habit(1, 7, false));
        edges.changes("official numbers", busy, x -> x.official(2, 0));
        edges.changes("a fraction", busy, x -> x.chance(6));
    }
}
