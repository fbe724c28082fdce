/** Each sentence of the document that names an edge, by a test of its own; and that no words of it are left out. */
final class EdgesTest {
    public static void main(String[] args) {
        TermEdges.all();
        RowEdges.all();
        TextEdges.all();
        DayEdges.all();
        ForetoldEdges.all();
        CountedEdges.all();
        AskedEdges.all();
        Edges.end();
    }
}
