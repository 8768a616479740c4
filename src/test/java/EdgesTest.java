import java.io.IOException;

/**
 * The document's edges, sentence by sentence: each sentence of the Terms and of promises 1 to 32 is
 * quoted by the test that holds it, and one that none quotes is an error.
 */
public final class EdgesTest {
    public static void main(String[] args) throws IOException {
        Edges edges = new Edges();
        MournerEdges.run(edges);
        RateEdges.run(edges);
        ParishEdges.run(edges);
        DayEdges.run(edges);
        SeenEdges.run(edges);
        PlanEdges.run(edges);
        ActEdges.run(edges);
        TapeEdges.run(edges);
        edges.finish();
    }
}
