import java.io.IOException;

/** Every sentence of the document that names a boundary case, each by a test of its own. */
public final class SentencesTest {
    public static void main(String[] args) throws IOException {
        Sentences document = new Sentences();
        FrogSentences.test(document);
        ListSentences.test(document);
        CroakSentences.test(document);
        CommandSentences.test(document);
        ChangeSentences.test(document);
        ExceptionSentences.test(document);
        document.allAreTested();
        Check.end("SentencesTest");
    }
}
