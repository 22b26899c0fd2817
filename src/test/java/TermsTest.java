/**
 * The boundary cases that "Terms" names up to "One minute", a test for each sentence. How they are
 * refused is in RefusalTest, the ranges of numbers in texts are in TextsTest.
 */
public final class TermsTest {
    private final Check check = new Check();

    private TermsTest() {
    }

    public static void main(String[] args) {
        TermsTest test = new TermsTest();
        test.roundedDown();
        test.air();
        test.draught();
        test.fire();
        test.floors();
        test.loads();
        test.warmth();
        test.temperature();
        test.damper();
        test.packing();
        test.smouldering();
        test.qualityAndPrice();
        test.minuteOne();
        test.minuteTwo();
        test.minuteThree();
        test.scorching();
        test.minuteFour();
        test.burning();
        test.neighbours();
        test.minuteFive();
        test.check.close();
    }

    /** A house of one floor with the limit 90 and still air. */
    private static HopOast still(int heat, int moisture) {
        return Oasts.of("oast " + heat + " 0 0 0 0;floor 90;load 0 10 " + moisture + ";");
    }

    private static HopOast windy(int gear, int wind, int strength, int vane) {
        return Oasts.of("oast 0 " + gear + " " + wind + " " + strength + " " + vane + ";floor 90;");
    }

    /** A house of one floor with still air in which sacks of these temperatures and moistures are packed. */
    private static HopOast packed(int... temperaturesAndMoistures) {
        HopOast oast = Oasts.of("oast 0 0 0 0 0;floor 90;");
        for (int i = 0; i < temperaturesAndMoistures.length; i += 2) {
            oast.setHeat(temperaturesAndMoistures[i] - 15);
            oast.putLoad(10, temperaturesAndMoistures[i + 1]);
            oast.lower(0);
        }
        return oast;
    }

    private void roundedDown() {
        check.sentence("Every division of integers is rounded down.");
        check.same("half of 1, with the wind nearly behind", 0, windy(0, 1, 1, 0).draught());
        check.same("half of 9", 4, windy(0, 1, 9, 0).draught());
        check.same("minus half of 1", 2, windy(1, 4, 1, 0).draught());
        check.same("minus half of 9", 4, windy(4, 4, 9, 0).draught());
        check.same("99 divided by 100", 90 - 4,
                Oasts.of("oast 75 0 0 0 0;floor 90;floor 90;load 0 1 99;").temperatureOf(1));
        check.same("799 divided by 100", 90 - 4 - 7,
                Oasts.of("oast 75 0 0 0 0;floor 90;floor 90;load 0 1 799;").temperatureOf(1));
        check.same("9 divided by 10", 0, still(9, 800).dryingOn(0));
        check.same("19 divided by 10", 1, still(19, 800).dryingOn(0));
        check.same("half of 1", 100, packed(15, 81).qualityOf(0));
        check.same("half of 19", 91, packed(15, 99).qualityOf(0));
        HopOast light = Oasts.of("oast 0 0 0 0 0;floor 90;load 0 1 82;");
        light.lower(0);
        check.same("99 divided by 10", 9, light.priceOf(0));
    }

    private void air() {
        check.sentence("There are 8 directions, numbered clockwise from 0 to 7; direction 0 follows direction 7.");
        check.same("from 7 to 0", 1, windy(0, 0, 2, 7).deviation());
        check.same("from 0 to 7", 1, windy(0, 7, 2, 0).deviation());
        vane(windy(0, 0, 2, 7), 0);
        vane(windy(0, 7, 2, 0), 7);
        vane(windy(0, 1, 2, 6), 7, 0, 1);
        vane(windy(0, 6, 2, 1), 0, 7, 6);
        vane(windy(0, 3, 2, 7), 0, 1, 2, 3);
        HopOast oast = windy(0, 0, 0, 7);
        check.same("vane 7", 7, oast.vaneDirection());
        oast.setWind(7, 0);
        check.same("wind 7", 7, oast.windDirection());
        oast.setWind(0, 0);
        check.same("wind 0", 0, oast.windDirection());

        check.sentence("The vane has a direction.");
        check.same("0", 0, windy(0, 0, 0, 0).vaneDirection());
        check.same("7", 7, windy(0, 0, 0, 7).vaneDirection());
        check.same("8", HopOast.OUT_OF_RANGE, Oasts.load(new HopOast(), "oast 0 0 0 0 8;floor 90;"));

        check.sentence("The wind has a direction and a strength (0 to 9).");
        oast.setWind(3, 9);
        check.same("strength 9", 9, oast.windStrength());
        oast.setWind(3, 0);
        check.same("strength 0", 0, oast.windStrength());

        check.sentence("The deviation is the smallest number of steps, clockwise or not, "
                + "from the direction of the vane to that of the wind (0 to 4).");
        String[] due = {"01234321", "10123432", "21012343", "32101234", "43210123", "34321012", "23432101", "12343210"};
        for (int vane = 0; vane < 8; vane++) {
            for (int wind = 0; wind < 8; wind++) {
                check.same("from " + vane + " to " + wind, due[vane].charAt(wind) - '0',
                        windy(0, wind, 1, vane).deviation());
            }
        }

        check.sentence("The fan has a gear (0 to 4).");
        check.same("gear 0", 0, windy(0, 0, 0, 0).gear());
        check.same("gear 4", 4, windy(4, 0, 0, 0).gear());
        oast.setGear(4);
        check.same("set to 4", 4, oast.gear());
        oast.setGear(0);
        check.same("set to 0", 0, oast.gear());
    }

    private void vane(HopOast oast, int... due) {
        for (int i = 0; i < due.length; i++) {
            oast.advance(1);
            check.same("vane in minute " + (i + 1) + " of " + due.length, due[i], oast.vaneDirection());
        }
    }

    private void draught() {
        check.sentence("The draught is twice the gear, plus a part that depends on the wind: its strength if the "
                + "deviation is 0, half of its strength if the deviation is 1, nothing if the deviation is 2 or 3, "
                + "and minus half of its strength if the deviation is 4.");
        int[] strengths = {0, 1, 2, 3, 8, 9};
        int[] halves = {0, 0, 1, 1, 4, 4};
        for (int i = 0; i < strengths.length; i++) {
            int s = strengths[i];
            int half = halves[i];
            int[] parts = {s, half, 0, 0, -half, 0, 0, half};
            for (int wind = 0; wind < 8; wind++) {
                check.same("gear 2, wind " + wind + " of " + s, 4 + parts[wind], windy(2, wind, s, 0).draught());
            }
        }
        check.same("the greatest", 17, windy(4, 0, 9, 0).draught());
        check.same("no wind and no fan", 0, windy(0, 0, 0, 0).draught());

        check.sentence("A draught below 0 counts as 0.");
        check.same("2 - 1", 1, windy(1, 4, 3, 0).draught());
        check.same("2 - 2", 0, windy(1, 4, 4, 0).draught());
        check.same("2 - 3", 0, windy(1, 4, 6, 0).draught());
        check.same("0 - 1", 0, windy(0, 4, 2, 0).draught());
        check.same("0 - 4", 0, windy(0, 4, 9, 0).draught());
        HopOast against = Oasts.of("oast 40 0 4 9 0;floor 90;load 0 1 500;");
        check.same("it does not warm", 55, against.temperatureOf(0));
        check.same("it dries as no draught does", 4, against.dryingOn(0));
        check.same("setWind answers so too", 0, against.setWind(4, 8));
    }

    private void fire() {
        check.sentence("The fire has a heat (0 to 90).");
        HopOast oast = Oasts.of("oast 90 4 0 9 0;floor 90;");
        check.same("setup 90", 90, oast.heat());
        check.same("0", 0, oast.setHeat(0));
        check.same("heat 0", 0, oast.heat());
        check.same("90", 90, oast.setHeat(90));
        check.same("heat 90", 90, oast.heat());
        check.same("setup 0", 0, Oasts.of("oast 0 4 0 9 0;floor 90;").heat());
    }

    private void floors() {
        check.sentence("There are 1 to 4 floors, numbered from 0, which is the lowest one.");
        HopOast one = Oasts.of("oast 30 0 0 0 0;floor 90;");
        check.same("one", 1, one.floorCount());
        check.same("a load on one floor is on floor 0", 1, one.putLoad(5, 100));
        one.lower(0);
        check.same("floor 0 is the lowest", 1, one.sackCount());
        HopOast four = Oasts.of("oast 30 0 0 0 0;floor 90;floor 80;floor 70;floor 60;");
        check.same("four", 4, four.floorCount());
        four.putLoad(5, 100);
        check.yes("a load is put on floor 3", four.hasLoad(3));
        for (int floor = 3; floor >= 1; floor--) {
            four.lower(floor);
            check.yes("it is lowered to floor " + (floor - 1), four.hasLoad(floor - 1));
        }
        four.lower(0);
        check.same("and into a sack", 1, four.sackCount());
        check.same("five", HopOast.TOO_MANY,
                Oasts.load(new HopOast(), "oast 0 0 0 0 0;floor 90;floor 90;floor 90;floor 90;floor 90;"));
        check.same("none", HopOast.SYNTAX, Oasts.load(new HopOast(), "oast 0 0 0 0 0;"));

        check.sentence("A floor has a limit (40 to 90) and holds at most one load of hops.");
        HopOast limits = Oasts.of("oast 90 0 0 0 0;floor 90;floor 40;");
        check.same("90", 90, limits.limitOf(0));
        check.same("40", 40, limits.limitOf(1));
        check.same("the limit 40 is kept", 40, limits.temperatureOf(1));
        check.same("the limit 90 is kept", 90, still(90, 0).temperatureOf(0));
        one.putLoad(1, 1);
        check.illegalState("a second load", () -> one.putLoad(2, 1));
        check.same("the first load stays", 1, one.massOn(0));
        HopOast two = Oasts.of("oast 0 0 0 0 0;floor 90;floor 90;load 0 1 500;load 1 2 500;");
        check.illegalState("a load lowered onto another", () -> two.lower(1));
    }

    private void loads() {
        check.sentence("A load has a mass (1 to 99 kilograms), a moisture (0 to 800, in tenths of a percent) "
                + "and scorch points (0 to 100; 0 at first).");
        HopOast oast = Oasts.of("oast 75 0 0 0 0;floor 90;floor 90;load 0 1 0;load 1 99 800;");
        check.same("the least mass", 1, oast.massOn(0));
        check.same("the least moisture", 0, oast.moistureOn(0));
        check.same("no scorch points at first", 0, oast.scorchOn(0));
        check.same("the greatest mass", 99, oast.massOn(1));
        check.same("the greatest moisture", 800, oast.moistureOn(1));
        oast.lower(0);
        oast.lower(1);
        oast.putLoad(99, 0);
        check.same("the greatest mass put", 99, oast.massOn(1));
        check.same("the least moisture put", 0, oast.moistureOn(1));
        oast.advance(1);
        check.same("a scorch point", 1, oast.scorchOn(1));
        oast.undo();
        oast.undo();
        HopOast scorched = Oasts.of("oast 75 0 0 0 0;floor 90;floor 90;load 1 5 0;");
        scorched.advance(2);
        scorched.lower(1);
        scorched.putLoad(5, 0);
        check.same("a load where a scorched one was", 0, scorched.scorchOn(1));
        check.same("the scorched one", 2, scorched.scorchOn(0));
        oast.putLoad(1, 800);
        check.same("the least mass put", 1, oast.massOn(1));
        check.same("the greatest moisture put", 800, oast.moistureOn(1));
        check.same("no scorch points of a load put", 0, oast.scorchOn(1));

        check.sentence("It is dry if its moisture is at most 100.");
        check.yes("0", still(0, 0).isDry(0));
        check.yes("99", still(0, 99).isDry(0));
        check.yes("100", still(0, 100).isDry(0));
        check.no("101", still(0, 101).isDry(0));
        check.no("800", still(0, 800).isDry(0));
        check.same("100 can be packed", 100, still(0, 100).lower(0));
        check.illegalState("101 cannot", () -> still(0, 101).lower(0));
    }

    private void warmth() {
        check.sentence("The warmth of a floor is the heat, minus 4 times the number of the floor, minus the draught, "
                + "minus the moisture divided by 100 for each load on a lower floor.");
        HopOast oast = Oasts.of("oast 60 2 0 3 0;floor 90;floor 90;floor 90;floor 90;"
                + "load 0 1 800;load 1 1 99;load 2 1 100;load 3 1 800;");
        int draught = 7;
        check.same("floor 0 is below all loads", 15 + 60 - draught, oast.temperatureOf(0));
        check.same("floor 1 is above 800", 15 + 60 - draught - 4 - 8, oast.temperatureOf(1));
        check.same("floor 2 is above 99 too", 15 + 60 - draught - 8 - 8, oast.temperatureOf(2));
        check.same("floor 3 is above 100 too", 15 + 60 - draught - 12 - 8 - 1, oast.temperatureOf(3));
        HopOast halves = Oasts.of("oast 60 0 0 0 0;floor 90;floor 90;floor 90;load 0 1 199;load 1 1 199;");
        check.same("each load is divided by itself", 15 + 60 - 8 - 1 - 1, halves.temperatureOf(2));
        HopOast gone = Oasts.of("oast 60 0 0 0 0;floor 90;floor 90;load 1 1 400;");
        check.same("a load does not cool its own floor", 15 + 60 - 4, gone.temperatureOf(1));
        gone.lower(1);
        check.same("it cools the floor above", 15 + 60 - 4 - 4, gone.temperatureOf(1));
    }

    private void temperature() {
        check.sentence("The temperature of a floor is 15 plus its warmth, or 15 if the warmth is below 0.");
        String floors = ";floor 90;floor 90;floor 90;floor 90;";
        check.same("warmth 1", 16, Oasts.of("oast 13 0 0 0 0" + floors).temperatureOf(3));
        check.same("warmth 0", 15, Oasts.of("oast 12 0 0 0 0" + floors).temperatureOf(3));
        check.same("warmth -1", 15, Oasts.of("oast 11 0 0 0 0" + floors).temperatureOf(3));
        check.same("warmth -29", 15, Oasts.of("oast 0 4 0 9 0" + floors).temperatureOf(3));
        check.same("warmth -17 of floor 0", 15, Oasts.of("oast 0 4 0 9 0" + floors).temperatureOf(0));
        HopOast cold = Oasts.of("oast 12 0 0 0 0;floor 90;floor 90;floor 90;load 0 1 800;");
        check.same("a cold floor between", "27:800 15. 15.", Oasts.floors(cold));
    }

    private void damper() {
        check.sentence("The damper acts after each change of this class that is described below, and in each minute: "
                + "as long as the temperature of a floor is greater than its limit, the heat decreases by 1.");
        check.same("at the limit", 45, Oasts.of("oast 45 0 0 0 0;floor 60;").heat());
        check.same("1 above the limit", 45, Oasts.of("oast 46 0 0 0 0;floor 60;").heat());
        check.same("45 above the limit", 45, Oasts.of("oast 90 0 0 0 0;floor 60;").heat());
        check.same("the highest floor has the least limit", 37,
                Oasts.of("oast 90 0 0 0 0;floor 90;floor 80;floor 70;floor 40;").heat());
        check.same("each floor asks for more than the one below", 47,
                Oasts.of("oast 0 0 0 0 0;floor 85;floor 70;floor 60;floor 50;").setHeat(90));
        check.same("a floor between has the least limit", 29,
                Oasts.of("oast 90 0 0 0 0;floor 90;floor 40;floor 90;floor 90;").heat());
        check.same("the lowest floor has the least limit", 25,
                Oasts.of("oast 90 0 0 0 0;floor 40;floor 90;floor 90;floor 90;").heat());
        dampedBy("lower", 1, 59, o -> o.lower(0));
        dampedBy("rotate", 1, 59, HopOast::rotate);
        dampedBy("setHeat", 29, 60, o -> o.setHeat(89));
        dampedBy("setGear", 2, 60, o -> {
            o.setGear(1);
            o.setHeat(62);
            o.setGear(0);
        });
        dampedBy("setWind", 3, 60, o -> {
            o.setWind(0, 3);
            o.setHeat(63);
            o.setWind(0, 0);
        });
        dampedBy("a minute", 1, 59, o -> o.advance(1));
        dampedBy("a script", 1, 59, o -> Oasts.run(o, "lower 0;"));
        dampedBy("a load on the highest floor cools none", 0, 60, o -> o.putLoad(5, 800));
    }

    private interface Change {
        void on(HopOast oast);
    }

    /** The load on floor 0, until a minute dries it or it is taken away, keeps floor 1 at its limit. */
    private void dampedBy(String what, int degrees, int heat, Change change) {
        HopOast oast = Oasts.of("oast 60 0 0 0 0;floor 90;floor 70;load 0 1 100;");
        check.same(what + ": before", 60, oast.heat());
        change.on(oast);
        check.same(what + ": dampedHeat", degrees, oast.dampedHeat());
        check.same(what + ": heat", heat, oast.heat());
        check.same(what + ": contradictions", 0, oast.contradictions());
    }

    private void packing() {
        check.sentence("At most 20 sacks are packed, numbered from 0 in the order in which they were packed.");
        HopOast oast = Oasts.of("oast 0 0 0 0 0;floor 90;");
        for (int mass = 1; mass <= 20; mass++) {
            check.same("before sack " + (mass - 1), mass - 1, oast.sackCount());
            oast.putLoad(mass, 50);
            oast.lower(0);
        }
        for (int sack = 0; sack < 20; sack++) {
            check.same("sack " + sack, sack + 1, oast.sackMass(sack));
        }
        oast.sell(0);
        oast.putLoad(30, 50);
        check.illegalState("a 21st sack", () -> oast.lower(0));
        check.same("rotate packs no 21st sack", 0, oast.rotate());
        check.same("nor does a script", 0, Oasts.run(oast, "lower 0;"));
        check.same("20 sacks", 20, oast.sackCount());

        check.sentence("A sack has the mass, the moisture and the scorch points of a load, and a temperature, "
                + "which is at first the temperature of floor 0 before the load is taken away.");
        HopOast scorched = Oasts.of("oast 60 0 0 0 0;floor 90;floor 70;load 0 9 90;");
        scorched.advance(3);
        int moisture = scorched.moistureOn(0);
        int temperature = scorched.temperatureOf(0);
        scorched.lower(0);
        check.same("mass", 9, scorched.sackMass(0));
        check.same("moisture", moisture, scorched.sackMoisture(0));
        check.same("scorch points", 100 - 3, scorched.qualityOf(0));
        check.same("temperature", temperature, scorched.sackTemperature(0));
        HopOast damped = Oasts.of("oast 60 0 0 0 0;floor 90;floor 70;load 0 9 100;");
        damped.lower(0);
        check.same("before the damper acts", 75, damped.sackTemperature(0));
        check.same("the least temperature", 15, packed(15, 0).sackTemperature(0));
        check.same("the greatest temperature", 90, packed(90, 0).sackTemperature(0));

        check.sentence("It is stored at first; later it can be sold or burnt.");
        check.same("at first", HopOast.STORED, packed(90, 0).sackState(0));
        HopOast sold = packed(15, 0);
        sold.sell(0);
        check.same("sold", HopOast.SOLD, sold.sackState(0));
        HopOast burnt = packed(90, 0);
        burnt.advance(5);
        check.same("burnt", HopOast.BURNT, burnt.sackState(0));
    }

    private void smouldering() {
        check.sentence("A stored sack smoulders if its moisture is less than 60 and its temperature is at least 50.");
        check.yes("59 and 50", packed(50, 59).isSmouldering(0));
        check.no("60 and 50", packed(50, 60).isSmouldering(0));
        check.no("59 and 49", packed(49, 59).isSmouldering(0));
        check.no("60 and 49", packed(49, 60).isSmouldering(0));
        check.yes("0 and 90", packed(90, 0).isSmouldering(0));
        check.no("100 and 90", packed(90, 100).isSmouldering(0));
        check.no("0 and 15", packed(15, 0).isSmouldering(0));
        HopOast burnt = packed(90, 0);
        burnt.advance(5);
        check.no("a burnt sack of 100 degrees", burnt.isSmouldering(0));
        HopOast sold = packed(60, 60);
        sold.sell(0);
        check.no("a sold sack", sold.isSmouldering(0));
    }

    private void qualityAndPrice() {
        check.sentence("The quality of a sack is 100, minus its scorch points, minus half of what its moisture "
                + "exceeds 80 by, if it does, but at least 0.");
        check.same("moisture 0", 100, packed(15, 0).qualityOf(0));
        check.same("moisture 79", 100, packed(15, 79).qualityOf(0));
        check.same("moisture 80", 100, packed(15, 80).qualityOf(0));
        check.same("moisture 81", 100, packed(15, 81).qualityOf(0));
        check.same("moisture 82", 99, packed(15, 82).qualityOf(0));
        check.same("moisture 100", 90, packed(15, 100).qualityOf(0));
        check.same("moisture 278", 1, quenched(78, 2).qualityOf(0));
        check.same("moisture 279", 1, quenched(79, 2).qualityOf(0));
        check.same("moisture 280", 0, quenched(80, 2).qualityOf(0));
        check.same("moisture 282", 0, quenched(82, 2).qualityOf(0));
        check.same("moisture 800", 0, quenched(0, 8).qualityOf(0));
        check.same("99 scorch points", 1, scorched(99).qualityOf(0));
        check.same("100 scorch points", 0, scorched(100).qualityOf(0));
        HopOast both = scorched(99);
        both.quench(0);
        check.same("1 left, and 10 for the moisture", 0, both.qualityOf(0));

        check.sentence("The price of a sack is its mass times its quality, divided by 10.");
        check.same("10 kilograms of 0", 0, quenched(80, 2).priceOf(0));
        check.same("10 kilograms of 1", 1, quenched(78, 2).priceOf(0));
        HopOast oast = Oasts.of("oast 0 0 0 0 0;floor 90;");
        Oasts.run(oast, "load 99 80;lower 0;load 1 82;lower 0;load 99 82;lower 0;");
        check.same("99 kilograms of 100", 990, oast.priceOf(0));
        check.same("1 kilogram of 99", 9, oast.priceOf(1));
        check.same("99 kilograms of 99", 980, oast.priceOf(2));
    }

    private static HopOast quenched(int moisture, int times) {
        HopOast oast = packed(15, moisture);
        for (int i = 0; i < times; i++) {
            oast.quench(0);
        }
        return oast;
    }

    /** A sack of moisture 0 with these scorch points. */
    private static HopOast scorched(int points) {
        HopOast oast = still(75, 0);
        oast.advance(points);
        oast.lower(0);
        return oast;
    }

    private void minuteOne() {
        check.sentence("The minute increases by 1.");
        HopOast counted = still(0, 0);
        for (int minute = 0; minute < 12; minute++) {
            check.same("minute", minute, counted.minute());
            counted.advance(1);
        }
        counted.advance(120);
        check.same("120 minutes", 132, counted.minute());

        check.sentence("If it is a multiple of 10 then and the heat is not 0, the heat decreases by 1.");
        HopOast oast = Oasts.of("oast 2 0 0 0 0;floor 90;");
        int[] minutes = {1, 9, 10, 11, 19, 20, 21, 29, 30, 100, 110};
        int[] heats = {2, 2, 1, 1, 1, 0, 0, 0, 0, 0, 0};
        for (int i = 0; i < minutes.length; i++) {
            oast.advance(minutes[i] - oast.minute());
            check.same("minute " + minutes[i], heats[i], oast.heat());
        }
        check.same("the damper has no part in it", 0, oast.dampedHeat());
        HopOast warm = Oasts.of("oast 40 0 0 0 0;floor 90;load 0 1 800;");
        warm.advance(9);
        check.same("9 minutes of 40", 800 - 36, warm.moistureOn(0));
        warm.advance(1);
        check.same("the tenth is one of 39", 800 - 39, warm.moistureOn(0));
    }

    private void minuteTwo() {
        check.sentence("If the strength of the wind is at least 2 and the deviation is not 0, the vane turns by one "
                + "step in the direction in which fewer steps are needed, or clockwise if the deviation is 4.");
        vane(windy(0, 2, 1, 0), 0);
        vane(windy(0, 2, 0, 0), 0);
        vane(windy(0, 2, 2, 0), 1, 2, 2);
        vane(windy(0, 5, 9, 5), 5);
        vane(windy(0, 6, 9, 5), 6, 6);
        vane(windy(0, 4, 9, 5), 4, 4);
        vane(windy(0, 1, 2, 6), 7);
        vane(windy(0, 3, 2, 6), 5);
        for (int direction = 0; direction < 8; direction++) {
            vane(windy(0, (direction + 4) % 8, 2, direction), (direction + 1) % 8);
            vane(windy(0, (direction + 3) % 8, 2, direction), (direction + 1) % 8);
            vane(windy(0, (direction + 5) % 8, 2, direction), (direction + 7) % 8);
        }
        HopOast calm = windy(0, 4, 1, 0);
        calm.advance(1);
        check.same("no steps", 0, calm.vaneSteps());
    }

    private void minuteThree() {
        check.sentence("The temperatures and the draught after step 2 are taken for all floors.");
        HopOast oast = Oasts.of("oast 60 0 1 8 0;floor 90;floor 90;load 0 1 701;load 1 1 700;");
        oast.advance(1);
        // After step 2 the draught is 8; floor 1 has 60 - 4 - 8 - 7 = 41 while the load below it has 701.
        check.same("the wind of step 2", 701 - 52 * 9 / 10, oast.moistureOn(0));
        check.same("the moisture before step 3", 700 - 41 * 9 / 10, oast.moistureOn(1));

        check.sentence("The moisture of each load decreases by the temperature of its floor minus 15, times 1 plus the "
                + "draught, divided by 10, but not below 0.");
        dried(15, 10, 10);
        dried(24, 10, 10);
        dried(25, 10, 9);
        dried(90, 8, 1);
        dried(90, 7, 0);
        dried(90, 6, 0);
        dried(90, 1, 0);
        dried(90, 0, 0);
        HopOast fan = Oasts.of("oast 90 4 0 9 0;floor 90;load 0 1 800;");
        fan.advance(1);
        check.same("the greatest draught", 800 - 73 * 18 / 10, fan.moistureOn(0));
    }

    private void dried(int temperature, int moisture, int due) {
        HopOast oast = still(temperature - 15, moisture);
        oast.advance(1);
        check.same(moisture + " at " + temperature + " degrees", due, oast.moistureOn(0));
    }

    private void scorching() {
        check.sentence("If the temperature of the floor is greater than 60 and the moisture is less than 200 then, "
                + "the load gets a scorch point, unless it has 100.");
        scorched("60 degrees, 196", 60, 200, 0);
        scorched("61 degrees, 199", 61, 203, 1);
        scorched("61 degrees, 200", 61, 204, 0);
        scorched("61 degrees, 201", 61, 205, 0);
        scorched("61 degrees, 0", 61, 0, 1);
        scorched("60 degrees, 0", 60, 0, 0);
        HopOast oast = still(75, 0);
        oast.advance(99);
        check.same("99 minutes", 99, oast.scorchOn(0));
        oast.advance(1);
        check.same("100 minutes", 100, oast.scorchOn(0));
        oast.advance(1);
        check.same("101 minutes", 100, oast.scorchOn(0));
        oast.advance(20);
        check.same("121 minutes", 100, oast.scorchOn(0));
        HopOast limit = Oasts.of("oast 60 0 0 0 0;floor 90;floor 61;load 0 1 109;load 1 1 150;");
        limit.advance(1);
        check.same("61 degrees before the load below dries", 1, limit.scorchOn(1));
    }

    private void scorched(String what, int temperature, int moisture, int due) {
        HopOast oast = still(temperature - 15, moisture);
        oast.advance(1);
        check.same(what, due, oast.scorchOn(0));
    }

    private void minuteFour() {
        check.sentence("If a sack smoulders, its temperature increases by 2, otherwise it decreases by 1, "
                + "but not below 15.");
        cooled(50, 59, 52);
        cooled(50, 60, 49);
        cooled(49, 59, 48);
        cooled(90, 0, 92);
        cooled(90, 100, 89);
        cooled(17, 0, 16);
        cooled(16, 0, 15);
        cooled(15, 0, 15);
        HopOast oast = packed(51, 60);
        oast.advance(35);
        check.same("35 minutes", 16, oast.sackTemperature(0));
        oast.advance(85);
        check.same("120 minutes", 15, oast.sackTemperature(0));
        HopOast sold = packed(30, 0);
        sold.sell(0);
        sold.advance(3);
        check.same("a sold sack is not visited", 30, sold.sackTemperature(0));
    }

    private void cooled(int temperature, int moisture, int due) {
        HopOast oast = packed(temperature, moisture);
        oast.advance(1);
        check.same(temperature + " degrees and " + moisture, due, oast.sackTemperature(0));
    }

    private void burning() {
        check.sentence("If it is at least 100 then, the sack is burnt, and the temperatures of the stored sacks with "
                + "the next lower and the next higher number of all sacks, if these are stored, increase by 10.");
        HopOast even = packed(90, 0);
        even.advance(4);
        check.same("98 degrees", HopOast.STORED, even.sackState(0));
        check.same("burnt in a minute", 1, even.advance(1));
        check.same("100 degrees", HopOast.BURNT, even.sackState(0));
        HopOast odd = packed(89, 0);
        odd.advance(5);
        check.same("99 degrees", HopOast.STORED, odd.sackState(0));
        check.same("99", 99, odd.sackTemperature(0));
        odd.advance(1);
        check.same("101 degrees", HopOast.BURNT, odd.sackState(0));
        check.same("101", 101, odd.sackTemperature(0));
        // A sack too wet to smoulder between two that burn in minute 5: 10 before its visit, 10 after it.
        HopOast cool = packed(90, 0, 85, 60, 90, 0);
        cool.advance(5);
        check.same("100 degrees after its visit", 100, cool.sackTemperature(1));
        check.same("it is not burnt yet", HopOast.STORED, cool.sackState(1));
        cool.advance(1);
        check.same("99 degrees at its visit", HopOast.STORED, cool.sackState(1));
        HopOast hot = packed(90, 0, 86, 60, 90, 0);
        hot.advance(5);
        check.same("101 degrees after its visit", HopOast.STORED, hot.sackState(1));
        check.same("it does not smoulder", 0, hot.smoulderingSacks());
        check.same("100 degrees at its visit", 1, hot.advance(1));
        check.same("it is burnt", HopOast.BURNT, hot.sackState(1));
        check.same("its temperature", 100, hot.sackTemperature(1));
    }

    private void neighbours() {
        HopOast oast = packed(30, 0, 40, 0, 90, 0, 40, 0, 30, 0);
        oast.advance(5);
        check.same("next but one below", 25, oast.sackTemperature(0));
        check.same("next below", 45, oast.sackTemperature(1));
        check.same("itself", 100, oast.sackTemperature(2));
        check.same("next above", 45, oast.sackTemperature(3));
        check.same("next but one above", 25, oast.sackTemperature(4));
        HopOast first = packed(90, 0, 40, 0);
        first.advance(5);
        check.same("sack 0 has none below", 45, first.sackTemperature(1));
        HopOast last = packed(40, 0, 90, 0);
        last.advance(5);
        check.same("the last sack has none above", 45, last.sackTemperature(0));
        last.putLoad(1, 0);
        last.lower(0);
        check.same("the next sack is packed as it is", last.temperatureOf(0), last.sackTemperature(2));
        HopOast sold = packed(30, 0, 40, 0, 90, 0, 40, 0, 30, 0);
        sold.sell(1);
        sold.sell(3);
        sold.advance(5);
        check.same("a sold one below", 40, sold.sackTemperature(1));
        check.same("the next stored one below is not meant", 25, sold.sackTemperature(0));
        check.same("a sold one above", 40, sold.sackTemperature(3));
        check.same("the next stored one above is not meant", 25, sold.sackTemperature(4));
        HopOast burnt = packed(90, 0, 88, 0);
        burnt.advance(5);
        check.same("burnt first", 100, burnt.sackTemperature(0));
        check.same("88 + 8 + 10 + 2", 108, burnt.sackTemperature(1));
        check.same("both are burnt", 20, burnt.burntMass());
        cascade();
    }

    private void cascade() {
        HopOast up = packed(90, 0, 80, 0, 69, 59);
        check.same("80 + 8 + 10 + 2 is burnt, 69 + 8 + 10 + 2 is not", 2, up.advance(5));
        check.same("the third", 89, up.sackTemperature(2));
        HopOast nearly = packed(90, 0, 79, 0);
        check.same("79 + 8 + 10 + 2 is not burnt", 1, nearly.advance(5));
        check.same("99 degrees", 99, nearly.sackTemperature(1));
        HopOast down = packed(80, 0, 90, 0);
        check.same("a lower one was visited before", 1, down.advance(5));
        check.same("80 + 10 + 10", 100, down.sackTemperature(0));
        check.same("it burns in the next minute", 1, down.advance(1));
        check.same("102 degrees", 102, down.sackTemperature(0));
        HopOast all = Oasts.of("oast 75 0 0 0 0;floor 90;");
        Oasts.run(all, "repeat 20(load 10 0;lower 0;);");
        check.same("20 sacks at once", 20, all.advance(5));
        check.same("the first", 100, all.sackTemperature(0));
        check.same("the last", 110, all.sackTemperature(19));
        check.sentence("The stored sacks are visited in ascending order.");
        check.same("the lower one heats the higher one before its visit", 52,
                heatedBeforeItsVisit().sackTemperature(1));
        check.same("the higher one heats the lower one after its visit", 49 - 5 + 10,
                heatedAfterItsVisit().sackTemperature(0));
    }

    /** Sack 1 has 40 degrees when sack 0 burns, and smoulders at its visit. */
    private static HopOast heatedBeforeItsVisit() {
        HopOast oast = packed(90, 0, 44, 0);
        oast.advance(5);
        return oast;
    }

    private static HopOast heatedAfterItsVisit() {
        HopOast oast = packed(49, 0, 90, 0);
        oast.advance(5);
        return oast;
    }

    private void minuteFive() {
        check.sentence("The damper acts.");
        // The load on floor 0 dries from 100 to 94: floor 1 has 71 degrees then, one more than its limit.
        HopOast oast = Oasts.of("oast 60 0 0 0 0;floor 90;floor 70;load 0 1 100;load 1 1 500;");
        oast.advance(1);
        check.same("heat", 59, oast.heat());
        check.same("floor 1 is at its limit", 70, oast.temperatureOf(1));
        check.same("floor 1 was at its limit in step 3", 500 - 5, oast.moistureOn(1));
        oast.advance(1);
        check.same("floor 0 has felt it", 94 - 5, oast.moistureOn(0));
        check.same("once is enough", 1, oast.dampedHeat());
    }
}
