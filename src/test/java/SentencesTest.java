import java.io.IOException;
import java.nio.file.Files;
import java.nio.file.Path;

/** Each sentence of the document that names a boundary case, with a test of its own. */
final class SentencesTest {
    private SentencesTest() {
    }

    public static void main(String[] args) throws IOException {
        String doc = Files.readString(Path.of(System.getProperty("mailoffice.doc")));
        Sentences s = new Sentences(doc);
        TermSentences.test(s);
        LetterSentences.test(s);
        TableSentences.test(s);
        BagSentences.test(s);
        RouteSentences.test(s);
        TimeSentences.test(s);
        ConsistencySentences.test(s);
        ProgramSentences.test(s);
        UndoSentences.test(s);
        ErrorSentences.test(s);
        s.expectAllTested();
        Expect.finish("SentencesTest");
    }
}
