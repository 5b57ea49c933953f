/** Every sentence of the document that names a boundary, with a test of its own. */
public final class BoundsTest {
    public static void main(String[] args) throws Exception {
        Bounds bounds = new Bounds();
        new BoundsOfTexts(bounds).run();
        new BoundsOfNights(bounds).run();
        new BoundsOfPlans(bounds).run();
        new BoundsOfSights(bounds).run();
        bounds.finish();
    }
}
