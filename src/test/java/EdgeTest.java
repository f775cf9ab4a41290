import java.io.IOException;

/** Every sentence of the document that names a boundary, on both sides of it. */
public final class EdgeTest {
    public static void main(String[] args) throws IOException {
        Edges edges = new Edges();
        TapeEdges.play(edges);
        LeavesEdges.play(edges);
        DaysEdges.play(edges);
        TriedEdges.play(edges);
        SheetsEdges.play(edges);
        ActsEdges.play(edges);
        edges.document();
        edges.close();
    }
}
