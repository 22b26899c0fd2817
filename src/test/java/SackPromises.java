/** Promises 27 to 36: sacks. */
final class SackPromises {
    private final Check check;

    SackPromises(Check check) {
        this.check = check;
    }

    void run() {
        packing();
        noSuchSack();
        smouldering();
        quality();
        minutesOfSacks();
        neighbours();
        hottest();
    }

    /** A house of one floor in which sacks of the temperature 90 are packed, with these moistures. */
    private static HopOast hot(int... moistures) {
        HopOast oast = Oasts.of("oast 75 0 0 0 0;floor 90;");
        for (int i = 0; i < moistures.length; i++) {
            oast.putLoad(10 + i, moistures[i]);
            oast.lower(0);
        }
        return oast;
    }

    private void packing() {
        HopOast oast = Oasts.of("oast 60 0 0 0 0;floor 90;floor 75;load 0 99 100;load 1 7 13;");
        check.promise(27);
        check.same("no sack", 0, oast.sackCount());
        oast.advance(2);
        oast.lower(0);
        check.same("one sack", 1, oast.sackCount());
        oast.rotate();
        check.same("still one sack", 1, oast.sackCount());
        oast.lower(0);
        check.same("two sacks", 2, oast.sackCount());
        check.promise(28);
        check.same("stored", HopOast.STORED, oast.sackState(0));
        check.promise(29);
        check.same("mass 0", 99, oast.sackMass(0));
        check.same("mass 1", 7, oast.sackMass(1));
        check.promise(30);
        check.same("moisture 0", 88, oast.sackMoisture(0));
        check.same("moisture 1", 3, oast.sackMoisture(1));
        check.promise(31);
        check.same("temperature 0", 75, oast.sackTemperature(0));
        check.promise(33);
        check.same("two scorch points and 4 for the moisture", 94, oast.qualityOf(0));
        oast.sell(0);
        check.promise(28);
        check.same("sold", HopOast.SOLD, oast.sackState(0));
        check.same("the other is stored", HopOast.STORED, oast.sackState(1));
        check.promise(29);
        check.same("the mass of a sold sack", 99, oast.sackMass(0));
        check.promise(27);
        check.same("a sold sack counts", 2, oast.sackCount());
        oast.advance(60);
        check.promise(28);
        check.same("burnt", HopOast.BURNT, oast.sackState(1));
        check.promise(29);
        check.same("the mass of a burnt sack", 7, oast.sackMass(1));
        check.promise(31);
        check.same("the temperature when it was sold", 75, oast.sackTemperature(0));
        check.promise(27);
        check.same("a burnt sack counts", 2, oast.sackCount());
        check.promise(31);
        // The load on floor 0 cools floor 1 alone: lowered, it lets floor 1 get warmer than 55 degrees.
        HopOast damped = Oasts.of("oast 60 0 0 0 0;floor 75;floor 70;load 0 1 100;");
        damped.lower(0);
        check.same("the temperature before the load is taken away", 75, damped.sackTemperature(0));
        check.same("the damper acts behind it", 59, damped.heat());
        check.promise(27);
        HopOast full = hot(60, 60, 60, 60, 60, 60, 60, 60, 60, 60, 60, 60, 60, 60, 60, 60, 60, 60, 60, 60);
        check.same("20 sacks", 20, full.sackCount());
        check.promise(29);
        check.same("sack 19", 29, full.sackMass(19));
    }

    private void noSuchSack() {
        HopOast none = new HopOast();
        noSuchSack(none, 0);
        noSuchSack(none, -1);
        HopOast two = hot(60, 60);
        noSuchSack(two, 2);
        noSuchSack(two, 20);
        noSuchSack(two, Integer.MAX_VALUE);
        noSuchSack(two, Integer.MIN_VALUE);
        two.undo();
        noSuchSack(two, 1);
    }

    private void noSuchSack(HopOast oast, int sack) {
        check.promise(28);
        check.outside("sackState " + sack, () -> oast.sackState(sack));
        check.promise(29);
        check.outside("sackMass " + sack, () -> oast.sackMass(sack));
        check.promise(30);
        check.outside("sackMoisture " + sack, () -> oast.sackMoisture(sack));
        check.promise(31);
        check.outside("sackTemperature " + sack, () -> oast.sackTemperature(sack));
        check.promise(32);
        check.outside("isSmouldering " + sack, () -> oast.isSmouldering(sack));
        check.promise(33);
        check.outside("qualityOf " + sack, () -> oast.qualityOf(sack));
        check.promise(34);
        check.outside("priceOf " + sack, () -> oast.priceOf(sack));
    }

    private static HopOast packed(int temperature, int moisture) {
        HopOast oast = Oasts.of("oast " + (temperature - 15) + " 0 0 0 0;floor 90;load 0 10 " + moisture + ";");
        oast.lower(0);
        return oast;
    }

    private void smouldering() {
        check.promise(32);
        check.yes("50 degrees, 59", packed(50, 59).isSmouldering(0));
        check.yes("90 degrees, 0", packed(90, 0).isSmouldering(0));
        check.no("49 degrees, 59", packed(49, 59).isSmouldering(0));
        check.no("50 degrees, 60", packed(50, 60).isSmouldering(0));
        HopOast oast = hot(59, 60, 0, 0);
        check.promise(35);
        check.same("three of four", 3, oast.smoulderingSacks());
        oast.quench(2);
        check.same("one is quenched", 2, oast.smoulderingSacks());
        check.promise(32);
        check.no("quenched", oast.isSmouldering(2));
        oast.advance(5);
        check.no("burnt", oast.isSmouldering(0));
        check.promise(35);
        check.same("burnt ones do not smoulder", 0, oast.smoulderingSacks());
        check.same("no sack", 0, new HopOast().smoulderingSacks());
        HopOast sold = packed(49, 0);
        sold.sell(0);
        check.promise(32);
        check.no("sold", sold.isSmouldering(0));
    }

    private void quality() {
        quality(0, 100, 100);
        quality(80, 100, 100);
        quality(81, 100, 100);
        quality(82, 99, 99);
        quality(83, 99, 99);
        quality(100, 90, 90);
        check.promise(33);
        HopOast oast = packed(15, 100);
        int[] due = {40, 0, 0, 0, 0, 0, 0, 0};
        for (int i = 0; i < due.length; i++) {
            oast.quench(0);
            check.promise(33);
            check.same("moisture " + oast.sackMoisture(0), due[i], oast.qualityOf(0));
            check.promise(34);
            check.same("price of 10 kilograms", due[i], oast.priceOf(0));
        }
        check.promise(33);
        HopOast scorched = Oasts.of("oast 75 0 0 0 0;floor 90;load 0 99 0;");
        scorched.advance(9);
        scorched.lower(0);
        check.same("9 scorch points", 91, scorched.qualityOf(0));
        check.promise(34);
        check.same("99 times 91 divided by 10", 900, scorched.priceOf(0));
        scorched.quench(0);
        check.promise(33);
        check.same("and 20 for the moisture", 81, scorched.qualityOf(0));
        scorched.sell(0);
        check.same("sold", 81, scorched.qualityOf(0));
        check.promise(34);
        check.same("sold", 801, scorched.priceOf(0));
        HopOast burnt = hot(0, 70);
        burnt.advance(6);
        check.same("burnt", 100, burnt.priceOf(0));
        check.same("not burnt", 110, burnt.priceOf(1));
    }

    private void quality(int moisture, int quality, int price) {
        HopOast oast = packed(15, moisture);
        check.promise(33);
        check.same("quality of moisture " + moisture, quality, oast.qualityOf(0));
        check.promise(34);
        check.same("price of moisture " + moisture, price, oast.priceOf(0));
    }

    private void minutesOfSacks() {
        check.promise(31);
        HopOast oast = packed(50, 59);
        oast.advance(1);
        check.same("a sack that smoulders", 52, oast.sackTemperature(0));
        oast.advance(23);
        check.same("24 minutes", 98, oast.sackTemperature(0));
        check.promise(28);
        check.same("at 98 degrees", HopOast.STORED, oast.sackState(0));
        oast.advance(1);
        check.same("at 100 degrees", HopOast.BURNT, oast.sackState(0));
        oast.advance(1);
        check.promise(31);
        check.same("the temperature when it was burnt", 100, oast.sackTemperature(0));
        oast = packed(50, 60);
        oast.advance(1);
        check.same("a sack that does not smoulder", 49, oast.sackTemperature(0));
        oast.advance(33);
        check.same("16 degrees", 16, oast.sackTemperature(0));
        oast.advance(2);
        check.same("not below 15", 15, oast.sackTemperature(0));
        oast = packed(49, 0);
        oast.advance(1);
        check.same("too cold to smoulder", 48, oast.sackTemperature(0));
        oast = packed(90, 0);
        oast.quench(0);
        oast.advance(50);
        check.same("a quenched sack", 15, oast.sackTemperature(0));
        check.promise(30);
        check.same("its moisture", 100, oast.sackMoisture(0));
    }

    private void neighbours() {
        // Sacks 0 and 2 burn in minute 5; sack 1 has 86 degrees then and is met before and after its visit.
        HopOast oast = hot(0, 60, 0, 60, 60);
        check.promise(31);
        oast.advance(4);
        check.same("sack 0", 98, oast.sackTemperature(0));
        check.same("sack 1", 86, oast.sackTemperature(1));
        check.promise(57);
        check.same("two burn", 2, oast.advance(1));
        check.promise(31);
        check.same("sack 1 between two", 86 + 10 - 1 + 10, oast.sackTemperature(1));
        check.same("sack 3 beside one", 86 + 10 - 1, oast.sackTemperature(3));
        check.same("sack 4", 85, oast.sackTemperature(4));
        check.promise(28);
        check.same("sack 1 waits for its next visit", HopOast.STORED, oast.sackState(1));
        check.promise(57);
        check.same("a sack burns that does not smoulder", 1, oast.advance(1));
        check.promise(28);
        check.same("sack 1", HopOast.BURNT, oast.sackState(1));
        check.promise(31);
        check.same("it has cooled before", 104, oast.sackTemperature(1));
        check.same("a burnt neighbour stays", 100, oast.sackTemperature(0));
        check.same("a neighbour but one", 94, oast.sackTemperature(3));

        // 98 degrees, then 10 more from the neighbour below and 2 of its own.
        oast = hot(0, 0);
        check.promise(57);
        check.same("both burn", 2, oast.advance(5));
        check.promise(31);
        check.same("the higher one", 110, oast.sackTemperature(1));
        check.same("the lower one is not heated any more", 100, oast.sackTemperature(0));

        oast = hot(60, 0);
        oast.sell(0);
        oast.advance(5);
        check.same("a sold neighbour", 90, oast.sackTemperature(0));
        check.same("sack 1 burns at the end of the row", 100, oast.sackTemperature(1));

        // What the neighbour adds is felt at once: 39 + 10 is too little to smoulder, 40 + 10 enough.
        coldNeighbour(43, 39 + 10 - 1);
        coldNeighbour(44, 40 + 10 + 2);
    }

    private void coldNeighbour(int temperature, int due) {
        HopOast oast = hot(0);
        oast.setHeat(temperature - 15);
        oast.putLoad(1, 0);
        oast.lower(0);
        oast.advance(4);
        check.promise(31);
        check.same("a cold neighbour", temperature - 4, oast.sackTemperature(1));
        oast.advance(1);
        check.same("a neighbour of " + (temperature - 4) + " degrees", due, oast.sackTemperature(1));
    }

    private void hottest() {
        check.promise(36);
        HopOast oast = Oasts.of("oast 30 0 0 0 0;floor 90;");
        check.same("no sack", HopOast.NONE, oast.hottestSack());
        int[] heats = {30, 34, 34, 20};
        for (int heat : heats) {
            oast.setHeat(heat);
            oast.putLoad(1, 90);
            oast.lower(0);
        }
        check.same("the lowest of two", 1, oast.hottestSack());
        oast.sell(1);
        check.same("the other", 2, oast.hottestSack());
        oast.quench(2);
        check.same("a sold one does not count", 0, oast.hottestSack());
        oast.sell(0);
        check.same("one of two", 3, oast.hottestSack());
        oast.sell(3);
        check.same("the last", 2, oast.hottestSack());
        oast.sell(2);
        check.same("no sack is stored", HopOast.NONE, oast.hottestSack());
        HopOast burnt = hot(0, 70);
        burnt.advance(5);
        check.same("a burnt one does not count", 1, burnt.hottestSack());
    }
}
