/**
 * Each sentence of the document that names a boundary case, with a test of its own: the call just inside,
 * the one just outside, what it answers, and what STATUS and all else show behind it. Sentences are quoted;
 * a quote that is not in the document, or a part of the terms or promises that no test quotes, is a failure.
 */
final class BoundaryTest {
    private BoundaryTest() { }

    public static void main(String[] args) {
        SeatBounds.all();
        NearBounds.all();
        MinuteBounds.all();
        TextBounds.all();
        ComingBounds.all();
        OneBounds.all();
        KeptBounds.all();
        Bounds.end();
    }
}
