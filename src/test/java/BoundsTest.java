/** Each sentence of the document has a test of its own: just inside its bound, just outside it, empty, full, refused. */
public final class BoundsTest {
    public static void main(String[] args) {
        BoundsOfDeeds.run();
        BoundsOfRules.run();
        BoundsOfYears.run();
        BoundsOfLoans.run();
        BoundsOfPlans.run();
        BoundsOfStrangers.run();
        BoundsOfRows.run();
        BoundsOfHost.run();
        BoundsOfKeeping.run();
        Bounds.end();
    }
}
