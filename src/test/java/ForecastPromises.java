/** Promises 46 to 48: forecasts. */
final class ForecastPromises {
    private final Check check;

    ForecastPromises(Check check) {
        this.check = check;
    }

    void run() {
        temperatureAfter();
        minutesUntilDry();
        minutesUntilBurnt();
        changeNothing();
        beyondTheLastMinute();
    }

    private void temperatureAfter() {
        check.promise(46);
        for (int first = 0; first <= 300; first += 60) {
            temperaturesFrom(first, Math.min(first + 59, 300));
        }
        HopOast oast = Oasts.of("oast 60 1 4 6 0;floor 70;floor 62;floor 90;load 0 20 250;load 1 30 420;");
        check.outside("floor 3", () -> oast.temperatureAfter(3, 0));
        check.outside("floor -1", () -> oast.temperatureAfter(-1, 0));
        check.outside("floor 3 and minutes 301", () -> oast.temperatureAfter(3, 301));
        check.illegalArgument("minutes 301", () -> oast.temperatureAfter(2, 301));
        check.illegalArgument("minutes -1", () -> oast.temperatureAfter(0, -1));
        check.illegalArgument("minutes", () -> oast.temperatureAfter(0, Integer.MAX_VALUE));
        check.same("the fire after 300 minutes", 15 + 75 - 30,
                Oasts.of("oast 75 0 0 0 0;floor 90;").temperatureAfter(0, 300));
    }

    /** Compares forecasts with a house in which the minutes pass; an object has 512 calls. */
    private void temperaturesFrom(int first, int last) {
        HopOast oast = Oasts.of("oast 60 1 4 6 0;floor 70;floor 62;floor 90;load 0 20 250;load 1 30 420;");
        HopOast other = Oasts.of("oast 60 1 4 6 0;floor 70;floor 62;floor 90;load 0 20 250;load 1 30 420;");
        for (int passed = 0; passed < first; passed += 60) {
            other.advance(60);
        }
        for (int minutes = first; minutes <= last; minutes++) {
            for (int floor = 0; floor < 3; floor++) {
                check.same("floor " + floor + " after " + minutes, other.temperatureOf(floor),
                        oast.temperatureAfter(floor, minutes));
            }
            other.advance(1);
        }
    }

    private void minutesUntilDry() {
        check.promise(47);
        HopOast oast = Oasts.of("oast 20 0 0 0 0;floor 90;floor 90;floor 90;load 0 1 100;load 1 1 101;");
        check.same("dry", 0, oast.minutesUntilDry(0));
        check.same("1 too much", 1, oast.minutesUntilDry(1));
        check.missing("no load", () -> oast.minutesUntilDry(2));
        check.outside("no floor", () -> oast.minutesUntilDry(3));
        check.outside("floor -1", () -> oast.minutesUntilDry(-1));
        HopOast cold = Oasts.of("oast 9 0 0 0 0;floor 90;load 0 1 101;");
        check.same("too cold", HopOast.NONE, cold.minutesUntilDry(0));
        // The heat is 90 - 15 and falls by 1 in 10 minutes; 7 of moisture a minute at first.
        HopOast wet = Oasts.of("oast 75 0 0 0 0;floor 90;load 0 1 170;");
        check.same("9 times 7 and once 7", 10, wet.minutesUntilDry(0));
        // 4 in each of 9 minutes, then 3 in each of 100, 2 in each of 100, and 1 in each of 91
        check.same("727", 300, Oasts.of("oast 40 0 0 0 0;floor 90;load 0 1 727;").minutesUntilDry(0));
        check.same("726", 299, Oasts.of("oast 40 0 0 0 0;floor 90;load 0 1 726;").minutesUntilDry(0));
        check.same("728", HopOast.NONE, Oasts.of("oast 40 0 0 0 0;floor 90;load 0 1 728;").minutesUntilDry(0));
    }

    private void minutesUntilBurnt() {
        check.promise(48);
        HopOast oast = Oasts.of("oast 75 0 0 0 0;floor 90;");
        check.outside("no sack", () -> oast.minutesUntilBurnt(0));
        check.outside("sack -1", () -> oast.minutesUntilBurnt(-1));
        int[] moistures = {0, 60, 0, 100};
        for (int moisture : moistures) {
            oast.putLoad(5, moisture);
            oast.lower(0);
        }
        check.same("sack 0", 5, oast.minutesUntilBurnt(0));
        check.same("sack 1 between two", 6, oast.minutesUntilBurnt(1));
        check.same("sack 2", 5, oast.minutesUntilBurnt(2));
        check.same("sack 3", HopOast.NONE, oast.minutesUntilBurnt(3));
        check.outside("sack 4", () -> oast.minutesUntilBurnt(4));
        oast.advance(2);
        check.same("sack 0 later", 3, oast.minutesUntilBurnt(0));
        oast.quench(0);
        check.same("quenched", HopOast.NONE, oast.minutesUntilBurnt(0));
        oast.sell(0);
        check.same("sold", HopOast.NONE, oast.minutesUntilBurnt(0));
        oast.advance(10);
        check.same("burnt", 0, oast.minutesUntilBurnt(2));
    }

    private void changeNothing() {
        HopOast oast = Oasts.of("oast 75 1 4 6 0;floor 90;floor 90;load 0 5 40;load 1 6 700;");
        oast.lower(0);
        oast.writeFloors();
        String before = see(oast);
        check.promise(46);
        oast.temperatureAfter(0, 300);
        check.same("temperatureAfter changes nothing", before, see(oast));
        check.promise(47);
        oast.minutesUntilDry(1);
        check.same("minutesUntilDry changes nothing", before, see(oast));
        check.promise(48);
        oast.minutesUntilBurnt(0);
        check.same("minutesUntilBurnt changes nothing", before, see(oast));
    }

    private static String see(HopOast oast) {
        return String.join(" ", Oasts.output(oast), Integer.toString(oast.minute()), Integer.toString(oast.heat()),
                Integer.toString(oast.vaneDirection()), Integer.toString(oast.vaneSteps()),
                Integer.toString(oast.dampedHeat()), Integer.toString(oast.burntMass()),
                Integer.toString(oast.sackTemperature(0)), Integer.toString(oast.moistureOn(1)),
                Integer.toString(oast.scorchOn(1)), Integer.toString(oast.temperatureOf(1)),
                Integer.toString(oast.undoCount()));
    }

    private void beyondTheLastMinute() {
        HopOast oast = Oasts.of("oast 0 0 0 0 0;floor 90;");
        Oasts.run(oast, "repeat 20(wait 120;wait 120;);");
        Oasts.run(oast, "repeat 20(wait 120;wait 120;);");
        Oasts.run(oast, "wait 120;wait 120;wait 120;wait 39;fire 75;load 5 0;lower 0;load 5 200;");
        check.promise(57);
        check.illegalState("the last minute", () -> oast.advance(1));
        check.promise(46);
        check.same("minute 9999", 9999, oast.minute());
        check.same("minute 10000", 89, oast.temperatureAfter(0, 1));
        check.same("minute 10010", 88, oast.temperatureAfter(0, 11));
        check.promise(47);
        check.same("dry in", 15, oast.minutesUntilDry(0));
        check.promise(48);
        check.same("burnt in", 5, oast.minutesUntilBurnt(0));
    }
}
