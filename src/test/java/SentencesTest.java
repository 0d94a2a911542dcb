import java.io.IOException;

/** The document sentence by sentence, each with a test of its own; a sentence without one fails, too. */
final class SentencesTest {
    private SentencesTest() {
    }

    public static void main(String[] args) throws IOException {
        Sentences document = Sentences.read();
        new TermsSentences(document).tell();
        new ChangeSentences(document).tell();
        new PatternSentences(document).tell();
        new AutomatonSentences(document).tell();
        new FigureSentences(document).tell();
        new TextSentences(document).tell();
        document.finish();
        Check.finish("SentencesTest");
    }
}
