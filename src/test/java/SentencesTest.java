/** Every sentence of the document, boundary by boundary; at the end none may be left without a test. */
public final class SentencesTest {
    public static void main(String[] args) {
        ArraySentences.all();
        TextSentences.all();
        WorkSentences.all();
        ErrorSentences.all();
        RunSentences.all();
        Check.noSentence();
        Document.everySentenceWasNamed();
        Check.end();
    }
}
