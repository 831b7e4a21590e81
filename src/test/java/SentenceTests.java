import java.io.IOException;
import java.nio.file.Path;

/** Each sentence of the document, quoted, with a test of its own. Takes the folder ../shared. */
public final class SentenceTests {
    private SentenceTests() {
    }

    public static void main(String[] args) throws IOException {
        Sentences.read(Path.of(args.length > 0 ? args[0] : "../shared").resolve("DOC.md"));
        TermSentences.all();
        GameSentences.all();
        ExceptionSentences.all();
        CallSentences.all();
        BoardSentences.all();
        MoveSentences.all();
        WaySentences.all();
        AccountSentences.all();
        Sentences.end();
        Check.end("SentenceTests");
    }
}
