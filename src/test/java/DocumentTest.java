import java.nio.file.Path;

/**
 * The document sentence by sentence, its bounds above all: each test quotes the words that it holds against the class,
 * a quote must stand in the document, and a sentence that no test quotes is a fault of the tests.
 */
public final class DocumentTest {
    public static void main(String[] args) throws Exception {
        Path root = Path.of(args.length > 0 ? args[0] : ".");
        Document document = new Document(root.resolve("../shared/DOC.md"));
        Check check = new Check("DocumentTest", document);
        new FaceBounds(check, document, root.resolve("src/main/java/MaypoleGreen.java")).run();
        new TermsBounds(check).run();
        new PlaitBounds(check).run();
        new AheadBounds(check).run();
        new FeastsBounds(check).run();
        new Refusals(check, document).run();
        new PromiseBounds(check).run();
        check.allIsQuoted();
        check.end();
    }
}
