/** The edges that the document names, sentence by sentence: all of them in one run, so that none is left out unseen. */
public final class SentencesTest {
    public static void main(String[] args) {
        ServiceEdges.run();
        CallEdges.run();
        RequestEdges.run();
        BoundEdges.run();
        SpreadingEdges.run();
        RecoveryEdges.run();
        SetEdges.run();
        TextEdges.run();
        StateEdges.run();
        Sentences.finish();
    }
}
