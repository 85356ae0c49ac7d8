/** Each sentence of the document, on its bounds, one below them and one above them. */
public final class BoundsTest {
    public static void main(String[] args) {
        GraphBounds.play();
        TextBounds.play();
        AnalysisBounds.play();
        PathBounds.play();
        WalkBounds.play();
        CountBounds.play();
        StateBounds.play();
        Sentences.end();
    }
}
