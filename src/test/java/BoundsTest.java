import java.nio.file.Path;

/**
 * The document sentence by sentence: each sentence of the terms and of the promises is quoted and has
 * a test of its own, at the limits that it names. Wants the path of the document as its argument.
 */
public final class BoundsTest {
    public static void main(String[] args) throws Exception {
        Document document = new Document(Path.of(args[1]));
        TermsBounds.run(document);
        StrikingBounds.run(document);
        EntriesBounds.run(document);
        TextsBounds.run(document);
        LooksBounds.run(document);
        WouldBeBounds.run(document);
        DigestBounds.run(document);
        document.everySentenceIsTested();
        Check.finish();
    }
}
