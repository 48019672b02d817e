/**
 * Every sentence of the document that names a boundary, each with checks on both sides of it. What
 * is wrong is told with the promise and the sentence; a sentence without any check is told, too.
 */
public final class BoundaryTest {
    public static void main(String[] args) {
        BoundsOfDesigns.run();
        BoundsOfTexts.run();
        BoundsOfFaults.run();
        BoundsOfOverlays.run();
        BoundsOfRules.run();
        BoundsOfShapes.run();
        BoundsOfActs.run();
        BoundsOfTape.run();
        BoundsOfChanges.run();
        BoundsOfAnswers.run();
        Doc.allCited();
        Check.end();
    }
}
