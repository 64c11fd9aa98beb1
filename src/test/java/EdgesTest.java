/** Each sentence of the document that names a boundary case, by its own words. */
public final class EdgesTest {
    public static void main(String[] args) {
        RefusalEdges.run();
        RowEdges.run();
        TextEdges.run();
        ActEdges.run();
        ForetoldEdges.run();
        ToldEdges.run();
        ChanceEdges.run();
        AskEdges.run();
        Edges.allSentencesAreQuoted();
        Edges.end();
    }
}
