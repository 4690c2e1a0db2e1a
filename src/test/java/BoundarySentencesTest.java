import java.io.IOException;

/** Sentence by sentence of the document: each boundary case that it names, and each call that it refuses. */
public final class BoundarySentencesTest {
    public static void main(String[] args) throws IOException {
        Checks c = new Checks();
        Document doc = new Document(c);
        new TermBounds(c, doc).test();
        new PromiseBounds(c, doc).test();
        new RefusedCalls(c, doc).test();
        doc.noneIsLeft();
        c.end();
    }
}
