import java.io.IOException;
import java.nio.file.Path;

/**
 * Each sentence of the document that names a boundary case, in its words and its order, with a test of
 * its own. The document's path is the second argument.
 */
public final class BoundsTest {
    public static void main(String[] args) throws IOException {
        Check check = new Check("BoundsTest");
        Doc doc = new Doc(check, Path.of(args.length > 1 ? args[1] : "../shared/DOC.md"));
        new BoundsOfTexts(doc).run();
        new BoundsOfActs(doc).run();
        new BoundsOfAsks(doc).run();
        doc.end();
        check.end();
    }
}
