/** One test or more for each of the promises 1 to 64. */
public final class PromisesTest {
    private PromisesTest() {
    }

    public static void main(String[] args) {
        Check check = new Check();
        new TextPromises(check).run();
        new AirPromises(check).run();
        new FloorPromises(check).run();
        new SackPromises(check).run();
        new StatisticPromises(check).run();
        new ForecastPromises(check).run();
        new ChangePromises(check).run();
        new OutputPromises(check).run();
        check.close(64);
    }
}
