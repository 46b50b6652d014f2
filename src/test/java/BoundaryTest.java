import java.io.IOException;
import java.nio.file.Path;

/** Each sentence of the document that names a boundary case, with tests of its own under it. */
public final class BoundaryTest {
    private BoundaryTest() {
    }

    public static void main(String[] args) throws IOException {
        DocCheck check = new DocCheck(Path.of(System.getProperty("document")));
        new SheetBoundaries(check).run();
        new ShapeBoundaries(check).run();
        new PunchBoundaries(check).run();
        new ColourBoundaries(check).run();
        new EndBoundaries(check).run();
        check.end("BoundaryTest");
    }
}
