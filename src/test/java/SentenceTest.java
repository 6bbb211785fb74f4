import java.nio.file.Path;

/** Every sentence of the document by a test of its own, above all at the edges that it names. */
public final class SentenceTest {
    public static void main(String[] args) throws Exception {
        Sentences document = new Sentences(Path.of("../shared/DOC.md"));
        Group[] groups = {new GeneralSentences(document), new LeafSentences(document), new VaultSentences(document),
            new RowSentences(document), new TextSentences(document), new SheetSentences(document), new ImageSentences(document)};
        for (Group group : groups) {
            group.all();
        }
        document.end("SentenceTest");
    }
}
