import java.io.IOException;

/** The document sentence by sentence: each that names a boundary case has a test of its own, and each is looked up. */
public final class BoundaryTest {
    private BoundaryTest() {
    }

    public static void main(String[] args) throws IOException {
        TermsSentences.hold();
        TextSentences.hold();
        ChangeSentences.hold();
        TellSentences.hold();
        KeepSentences.hold();
        Sentence.checkDocument();
        Notation.end("BoundaryTest");
    }
}
