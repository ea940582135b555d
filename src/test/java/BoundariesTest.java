import java.io.IOException;
import java.nio.file.Path;

/** Promises 1 to 24 and "Terms", sentence by sentence: each is quoted, and its edges are tried. */
public final class BoundariesTest {
    private static final Checks CHECKS = new Checks("BoundariesTest");

    public static void main(String[] args) throws IOException {
        Document document = new Document(CHECKS, Path.of(System.getProperty("shared"), "DOC.md"));
        new Terms(CHECKS, document).run();
        new Refusals(CHECKS, document).run();
        new MakingPromises(CHECKS, document).run();
        new AskingPromises(CHECKS, document).run();
        document.isQuoted("Terms");
        for (int promise = 1; promise <= 24; promise++) {
            document.isQuoted("Promise " + promise);
        }
        CHECKS.finish();
    }
}
