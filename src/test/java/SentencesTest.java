/** Each sentence of the document that names a boundary case, from the terms to promise 29, with tests of its own. */
public final class SentencesTest {
    private SentencesTest() {
    }

    public static void main(String[] args) {
        AnswerEdges.run();
        FoldEdges.run();
        HoleEdges.run();
        LookEdges.run();
        TargetEdges.run();
        TextEdges.run();
        UndoEdges.run();
        Sentences.allAreTested();
        Due.end();
    }
}
