import java.io.IOException;

/** Each sentence of 'What it is', 'Terms' and the promises 1 to 13 has a test of its own, at the boundaries that it names. */
public final class BoundariesTest {
    public static void main(String[] args) throws IOException {
        OpeningBoundaries.hold();
        ProgramBoundaries.hold();
        RunBoundaries.hold();
        EdgeBoundaries.hold();
        StoreBoundaries.hold();
        FavouredBoundaries.hold();
        ShortestBoundaries.hold();
        DrawBoundaries.hold();
        TrialBoundaries.hold();
        DrawingBoundaries.hold();
        JoiningBoundaries.hold();
        PromiseBoundaries.hold();
        Sentence.standForAllOfTheDocument();
        Sentence.tellHowMany();
        Expect.done();
    }
}
