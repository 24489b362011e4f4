/** Each sentence of the document's terms and promises by a test of its own; of boundary cases by many. */
public final class EdgesTest {
    public static void main(String[] args) {
        all();
        Due.finish("EdgesTest");
    }

    static void all() {
        TapeEdges.all();
        ActEdges.all();
        ChartEdges.all();
        VoyageEdges.all();
        ForetoldEdges.all();
        RefusalEdges.all();
        TermEdges.all();
        Edge.finish();
    }
}
