/** Each sentence of the document that names a boundary case has a test of its own, by its own words. */
public final class BoundsTest {
    private BoundsTest() {
    }

    public static void main(String[] args) {
        BoundsOfMills.test();
        BoundsOfTurns.test();
        BoundsOfRounds.test();
        BoundsOfParts.test();
        BoundsOfNets.test();
        BoundsOfPictures.test();
        BoundsOfTold.test();
        Sentences.end();
    }
}
