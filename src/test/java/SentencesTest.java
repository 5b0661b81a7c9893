import java.io.IOException;

/** Every sentence of promises 1 to 50, and of the terms that they use, with a test of its own. */
public final class SentencesTest {
    private SentencesTest() {
    }

    public static void main(String[] args) throws IOException {
        Sentences doc = new Sentences();
        new TextSentences(doc).all();
        new BeamSentences(doc).all();
        new DaysSentences(doc).all();
        new RowsSentences(doc).all();
        new MakesSentences(doc).all();
        new FloodsSentences(doc).all();
        new GustsSentences(doc).all();
        new ActsSentences(doc).all();
        doc.end("SentencesTest");
    }
}
