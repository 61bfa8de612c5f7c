import java.io.IOException;

/**
 * Each sentence of the document that names a boundary case has a test of its own, on both sides of
 * the boundary where there are two; a sentence without one is told as a fault.
 */
public final class BoundaryTest {
    private BoundaryTest() {
    }

    public static void main(String[] args) throws IOException {
        EdgesOfTerms.all();
        EdgesOfTexts.all();
        EdgesOfQuestions.all();
        EdgesOfBeliefs.all();
        Edge.finish();
    }
}
