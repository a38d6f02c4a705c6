import java.io.IOException;
import java.nio.file.Path;

/**
 * The boundary cases that the document names: each sentence of the section Terms and of the promises 1 to 42 has
 * a test of its own, which bears the sentence. It runs in the project's directory, for it reads the document.
 */
public final class BoundsTest {
    public static void main(String[] args) throws IOException, ReflectiveOperationException {
        TermsBounds.run();
        DuesBounds.run();
        RefusalBounds.run();
        InductionBounds.run();
        EntryBounds.run();
        MinuteBounds.run();
        BarBounds.run();
        TariffBounds.run();
        BillBounds.run();
        Sentences.compareWith(Path.of("../shared/DOC.md"));
        Expect.end();
    }
}
