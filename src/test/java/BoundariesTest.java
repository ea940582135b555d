import java.io.IOException;
import java.nio.file.Path;

/** The document but for its face, sentence by sentence: each is quoted, and its edges are tried. */
public final class BoundariesTest {
    private static final Checks CHECKS = new Checks("BoundariesTest");

    public static void main(String[] args) throws IOException {
        Document document = new Document(CHECKS, Path.of(System.getProperty("shared"), "DOC.md"));
        new Sections(CHECKS, document).run();
        new Terms(CHECKS, document).run();
        new Refusals(CHECKS, document).run();
        new MakingPromises(CHECKS, document).run();
        new AskingPromises(CHECKS, document).run();
        document.isQuoted("What it is");
        document.isQuoted("Terms");
        document.isQuoted("Not promised");
        for (int promise = 1; promise <= 24; promise++) {
            document.isQuoted("Promise " + promise);
        }
        CHECKS.finish();
    }
}
