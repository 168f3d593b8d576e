/** A test for each sentence of the document that names a boundary case, named by the sentence's own words. */
public final class BoundsTest {
    public static void main(String[] args) {
        WheelBounds.all();
        NumberBounds.all();
        PieceClaimBounds.all();
        AskBounds.all();
        SearchBounds.all();
        WholeBounds.all();
        Sentence.allAreNamed();
        Due.end();
    }
}
