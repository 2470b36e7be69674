import java.io.IOException;

/** Each sentence of the document that names a boundary case, by its words, with a test of its own. */
public final class BoundaryTest {
    public static void main(String[] args) throws IOException {
        Boundary boundary = new Boundary();
        new BoundaryTerms(boundary).run();
        new BoundaryClues(boundary).run();
        new BoundaryAnswers(boundary).run();
        new BoundaryStrikes(boundary).run();
        new BoundaryImages(boundary).run();
        boundary.close();
    }
}
