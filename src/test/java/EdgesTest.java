/**
 * Each sentence of the document that a caller can rely on, by its own words: what is answered at its
 * edges, on both sides of them, what is refused there, and that nothing is changed by what is refused.
 */
final class EdgesTest {
    public static void main(String[] args) {
        TextEdges.run();
        ParsingEdges.run();
        TreeEdges.run();
        ChangeEdges.run();
        WritingEdges.run();
        Refusals.run();
        Document.checkAllTested();
        Check.end("EdgesTest");
    }
}
