/**
 * Every sentence of the document that names a boundary case, each with a test of its own that quotes it;
 * no word of 'Terms' or of a promise may be left that is not quoted.
 */
public final class EdgeTest {
    public static void main(String[] args) {
        TermsEdges.ask();
        RoadEdges.ask();
        DriveEdges.ask();
        TextEdges.ask();
        ChangeEdges.ask();
        BestEdges.ask();
        SeenEdges.ask();
        SheetEdges.ask();
        Sentence.close();
        Due.close("EdgeTest");
    }
}
