/** Promises 1 to 36: every sentence of the document that names a boundary case has a test of its own. */
public final class EdgesTest {
    public static void main(String[] args) {
        TextEdges.run();
        InkEdges.run();
        CoupleEdges.run();
        PixelEdges.run();
        ChoiceEdges.run();
        HandEdges.run();
        MostEdges.run();
        Edge.questionsAreFew();
        Edge.allQuoted();
        Check.end();
    }
}
