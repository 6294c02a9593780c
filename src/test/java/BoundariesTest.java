import java.io.IOException;

/** Each sentence of the document that names a boundary case: too small, too large, empty, full, refused. */
public final class BoundariesTest {
    public static void main(String[] args) throws IOException {
        Sentences doc = new Sentences();
        new RowsBoundaries(doc).run();
        new CoastBoundaries(doc).run();
        new ForetoldBoundaries(doc).run();
        new AskedBoundaries(doc).run();
        doc.end();
    }
}
