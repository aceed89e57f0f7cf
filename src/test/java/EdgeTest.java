/**
 * Each sentence of the document by itself, with the edges that it names. What a test prints tells
 * the promise and the sentence that it holds to.
 */
public final class EdgeTest {
    public static void main(String[] args) {
        TermEdges.all();
        RefusalEdges.all();
        BoardEdges.all();
        TaskEdges.all();
        PairEdges.all();
        SpanEdges.all();
        BendEdges.all();
        PlanEdges.all();
        CheckEdges.all();
        WholeEdges.all();
        Edges.LEDGER.end();
    }
}
