import java.nio.file.Path;

/**
 * For each sentence of the document, quoted, a test of the bounds that it names: the last number that is
 * allowed and the first that is not, nothing there and full, what wraps around, and what is refused.
 */
public final class BoundaryTest {
    public static void main(String[] args) throws Exception {
        Sentences.read(Path.of(args.length > 0 ? args[0] : "../shared/DOC.md"));
        TermBounds.all();
        HourBounds.all();
        TextBounds.all();
        CallBounds.all();
        AskBounds.all();
        LaterBounds.all();
        Sentences.tellGaps();
        Check.report("BoundaryTest");
    }
}
