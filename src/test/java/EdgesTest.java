/** Every sentence of the document that names a boundary has a case here, under its promise; 0 is the description. */
public final class EdgesTest {
    public static void main(String[] args) {
        DescriptionEdges.all();
        CausalityEdges.all();
        ViewEdges.all();
        MessageEdges.all();
        ProcessEdges.all();
        KnowledgeEdges.all();
        ScriptEdges.all();
        SnapshotEdges.all();
        Edge.end();
    }
}
