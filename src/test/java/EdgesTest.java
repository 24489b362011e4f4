/** Each sentence of the document that names a boundary case, by a test of its own. */
public final class EdgesTest {
    public static void main(String[] args) {
        all();
        Due.finish("EdgesTest");
    }

    static void all() {
        TapeEdges.all();
        ActEdges.all();
        ChartEdges.all();
        VoyageEdges.all();
        ForetoldEdges.all();
        RefusalEdges.all();
        Edge.finish();
    }
}
