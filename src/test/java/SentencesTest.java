import java.io.IOException;
import java.nio.file.Path;

/**
 * The document, sentence by sentence: every one that names a boundary case is quoted in front of the calls
 * that would show it broken, and one that no test quotes is told.
 */
public final class SentencesTest {
    public static void main(String[] args) throws IOException {
        Sentences s = new Sentences();
        new SentencesOnForms(s).all();
        new SentencesOnLoans(s).all();
        new SentencesOnWays(s).all();
        new SentencesOnText(s).all();
        new SentencesOnErrors(s).all();
        new PromisesOnTelling(s).all();
        new PromisesOnActs(s).all();
        new PromisesOnProperties(s).all();
        new PromisesOnFindings(s).all();
        s.end(Path.of("../shared/DOC.md"));
    }
}
