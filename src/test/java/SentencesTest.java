import java.io.IOException;

/** Each sentence of the document has a test of its own: what it asks at its boundaries, and what it refuses. */
public final class SentencesTest {
    public static void main(String[] args) throws IOException {
        Document document = new Document();
        TermsCases.run(document);
        KeyCases.run(document);
        ValueCases.run(document);
        CursorCases.run(document);
        OrderCases.run(document);
        ShapeCases.run(document);
        document.everySentenceHadATest();
        Check.end();
    }
}
