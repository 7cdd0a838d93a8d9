/** The whole document, sentence by sentence: each sentence that names a boundary case has a test of its own here. */
final class EdgesTest {
    public static void main(String[] args) throws Exception {
        Edges edges = new Edges();
        new EdgesOfText(edges).all();
        new EdgesOfHour(edges).all();
        new EdgesOfState(edges).all();
        new EdgesOfAhead(edges).all();
        new EdgesOfSeen(edges).all();
        new EdgesOfUndo(edges).all();
        edges.end();
    }
}
