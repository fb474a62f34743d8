/** Each sentence of the document that names a boundary has a test of its own, under the number of its promise. */
public final class EdgesTest {
    public static void main(String[] args) {
        TextEdges.all();
        MemberEdges.all();
        LinkEdges.all();
        AskEdges.all();
        KeepEdges.all();
        UnlikeEdges.all();
        RefusedEdges.all();
        Check.dueEdges();
        Check.finish();
    }
}
