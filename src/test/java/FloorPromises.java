/** Promises 16 to 26: floors. */
final class FloorPromises {
    private final Check check;

    FloorPromises(Check check) {
        this.check = check;
    }

    void run() {
        counts();
        noSuchFloor();
        temperatures();
        loads();
        drying();
        scorching();
        warmest();
        obstacles();
    }

    private void counts() {
        for (int floors = 1; floors <= 4; floors++) {
            StringBuilder setup = new StringBuilder("oast 0 0 0 0 0;");
            for (int floor = 0; floor < floors; floor++) {
                setup.append("floor ").append(90 - 7 * floor).append(';');
            }
            HopOast oast = Oasts.of(setup.toString());
            check.promise(16);
            check.same("floorCount", floors, oast.floorCount());
            check.promise(17);
            for (int floor = 0; floor < floors; floor++) {
                check.same("limitOf " + floor, 90 - 7 * floor, oast.limitOf(floor));
            }
        }
    }

    private void noSuchFloor() {
        HopOast one = Oasts.of("oast 0 0 0 0 0;floor 40;");
        HopOast four = Oasts.of("oast 0 0 0 0 0;floor 40;floor 40;floor 40;floor 40;load 3 1 1;");
        noSuchFloor(one, 1);
        noSuchFloor(one, 3);
        noSuchFloor(four, 4);
        noSuchFloor(four, -1);
        noSuchFloor(one, Integer.MIN_VALUE);
        noSuchFloor(one, Integer.MAX_VALUE);
        check.promise(17);
        check.same("floor 3", 40, four.limitOf(3));
    }

    private void noSuchFloor(HopOast oast, int floor) {
        check.promise(17);
        check.outside("limitOf " + floor, () -> oast.limitOf(floor));
        check.promise(18);
        check.outside("temperatureOf " + floor, () -> oast.temperatureOf(floor));
        check.promise(19);
        check.outside("hasLoad " + floor, () -> oast.hasLoad(floor));
        check.promise(20);
        check.outside("massOn " + floor, () -> oast.massOn(floor));
        check.promise(21);
        check.outside("moistureOn " + floor, () -> oast.moistureOn(floor));
        check.promise(22);
        check.outside("scorchOn " + floor, () -> oast.scorchOn(floor));
        check.promise(23);
        check.outside("isDry " + floor, () -> oast.isDry(floor));
        check.promise(24);
        check.outside("dryingOn " + floor, () -> oast.dryingOn(floor));
        check.promise(26);
        check.outside("obstacleToLower " + floor, () -> oast.obstacleToLower(floor));
    }

    private void temperatures() {
        check.promise(18);
        HopOast oast = Oasts.of("oast 30 1 0 0 0;floor 90;floor 90;floor 90;floor 90;"
                + "load 0 1 199;load 1 1 200;load 2 1 800;load 3 1 800;");
        check.same("the lowest", 15 + 30 - 2, oast.temperatureOf(0));
        check.same("above 199", 15 + 30 - 2 - 4 - 1, oast.temperatureOf(1));
        check.same("above 200", 15 + 30 - 2 - 8 - 1 - 2, oast.temperatureOf(2));
        check.same("above 800", 15 + 30 - 2 - 12 - 1 - 2 - 8, oast.temperatureOf(3));
        oast.setHeat(25);
        check.same("warmth 0", 15, oast.temperatureOf(3));
        oast.setHeat(24);
        check.same("warmth -1", 15, oast.temperatureOf(3));
        check.same("the floor below", 15 + 24 - 13, oast.temperatureOf(2));
        oast.setHeat(0);
        check.same("the warmth of the lowest is -2", 15, oast.temperatureOf(0));
        check.same("all are cold", 15, oast.temperatureOf(1));
        oast = Oasts.of("oast 90 0 0 0 0;floor 90;floor 90;load 0 1 99;load 1 1 800;");
        check.same("the limit", 90, oast.temperatureOf(0));
        check.same("each load is divided by itself", 86, oast.temperatureOf(1));
        oast = Oasts.of("oast 60 0 0 0 0;floor 90;floor 90;floor 90;load 0 1 150;load 1 1 150;");
        check.same("two halves are no whole", 15 + 60 - 8 - 1 - 1, oast.temperatureOf(2));
        oast.setWind(0, 9);
        check.same("wind cools", 15 + 60 - 9, oast.temperatureOf(0));
    }

    private void loads() {
        HopOast oast = Oasts.of("oast 0 0 0 0 0;floor 90;floor 90;floor 90;floor 90;"
                + "load 0 99 100;load 1 1 101;load 3 50 800;");
        check.promise(19);
        check.yes("hasLoad 0", oast.hasLoad(0));
        check.yes("hasLoad 1", oast.hasLoad(1));
        check.no("hasLoad 2", oast.hasLoad(2));
        check.yes("hasLoad 3", oast.hasLoad(3));
        check.promise(20);
        check.same("massOn 0", 99, oast.massOn(0));
        check.same("massOn 1", 1, oast.massOn(1));
        check.same("massOn 2", 0, oast.massOn(2));
        check.promise(21);
        check.same("moistureOn 0", 100, oast.moistureOn(0));
        check.same("moistureOn 3", 800, oast.moistureOn(3));
        check.missing("moistureOn 2", () -> oast.moistureOn(2));
        check.promise(22);
        check.same("scorchOn 0", 0, oast.scorchOn(0));
        check.missing("scorchOn 2", () -> oast.scorchOn(2));
        check.promise(23);
        check.yes("100 is dry", oast.isDry(0));
        check.no("101 is not dry", oast.isDry(1));
        check.no("no load is not dry", oast.isDry(2));
        oast.lower(0);
        oast.lower(1);
        oast.lower(3);
        check.promise(19);
        check.yes("lowered to 0", oast.hasLoad(0));
        check.no("lowered from 1", oast.hasLoad(1));
        check.yes("lowered to 2", oast.hasLoad(2));
        check.no("lowered from 3", oast.hasLoad(3));
        check.promise(20);
        check.same("mass lowered", 50, oast.massOn(2));
        check.same("no mass is left", 0, oast.massOn(3));
        check.promise(21);
        check.same("moisture lowered", 101, oast.moistureOn(0));
        check.missing("no moisture is left", () -> oast.moistureOn(1));
        check.promise(22);
        check.missing("no scorch is left", () -> oast.scorchOn(1));
        check.promise(23);
        check.no("nothing dry is left", oast.isDry(1));
    }

    private void drying() {
        check.promise(24);
        HopOast oast = Oasts.of("oast 44 0 0 3 0;floor 90;floor 90;floor 90;load 0 1 164;load 2 1 9;");
        // draught 3: floor 0 has 15 + 41, floor 2 has 15 + 44 - 8 - 3 - 1 = 15 + 32
        check.same("41 times 4 divided by 10", 16, oast.dryingOn(0));
        check.same("no load", 0, oast.dryingOn(1));
        check.same("not more than there is", 9, oast.dryingOn(2));
        oast.advance(1);
        check.promise(21);
        check.same("the moisture decreases", 148, oast.moistureOn(0));
        check.same("but not below 0", 0, oast.moistureOn(2));
        check.promise(24);
        check.same("nothing is left", 0, oast.dryingOn(2));
        check.same("drying changes nothing", 16, oast.dryingOn(0));
        HopOast cold = Oasts.of("oast 3 4 0 0 0;floor 90;load 0 1 800;");
        check.same("a cold floor", 0, cold.dryingOn(0));
        cold.advance(1);
        check.same("a cold floor dries nothing", 800, cold.moistureOn(0));

        check.promise(21);
        // The lower load falls below 200 in the first minute, which the upper one feels in the second only.
        oast = Oasts.of("oast 60 0 0 0 0;floor 90;floor 90;load 0 1 205;load 1 1 500;");
        oast.advance(1);
        check.same("lower load", 199, oast.moistureOn(0));
        check.same("upper load", 500 - 5, oast.moistureOn(1));
        oast.advance(1);
        check.same("upper load, second minute", 495 - 5, oast.moistureOn(1));
        oast = Oasts.of("oast 60 0 1 8 0;floor 90;load 0 1 700;");
        oast.advance(1);
        check.same("the vane turns before the draught is taken", 700 - 52 * 9 / 10, oast.moistureOn(0));
        oast = Oasts.of("oast 30 0 0 0 0;floor 90;load 0 1 700;");
        oast.advance(9);
        check.same("nine minutes", 700 - 9 * 3, oast.moistureOn(0));
        oast.advance(1);
        check.same("the fire falls before the temperature is taken", 700 - 9 * 3 - 2, oast.moistureOn(0));
    }

    private void scorching() {
        check.promise(22);
        // 61 degrees: 4 of moisture a minute
        HopOast oast = Oasts.of("oast 46 0 0 0 0;floor 90;load 0 1 208;");
        oast.advance(1);
        check.same("204", 0, oast.scorchOn(0));
        oast.advance(1);
        check.same("200", 0, oast.scorchOn(0));
        oast.advance(1);
        check.same("196", 1, oast.scorchOn(0));
        oast.advance(6);
        check.same("172", 7, oast.scorchOn(0));
        HopOast odd = Oasts.of("oast 46 0 0 0 0;floor 90;load 0 1 203;");
        odd.advance(1);
        check.same("199", 1, odd.scorchOn(0));
        oast.advance(1);
        check.same("60 degrees", 7, oast.scorchOn(0));
        oast.setHeat(75);
        oast.undo();
        check.same("undo", 7, oast.scorchOn(0));
        oast = Oasts.of("oast 90 0 0 0 0;floor 90;load 0 1 0;");
        for (int minute = 0; minute < 120; minute += 10) {
            oast.setHeat(75);
            oast.advance(9);
            oast.setHeat(80);
            oast.advance(1);
            check.same("minute " + oast.minute(), Math.min(100, oast.minute()), oast.scorchOn(0));
        }
        HopOast two = Oasts.of("oast 75 0 0 0 0;floor 90;floor 90;load 1 1 0;");
        two.advance(3);
        check.same("on floor 1", 3, two.scorchOn(1));
        two.lower(1);
        check.same("a load takes its scorch points along", 3, two.scorchOn(0));
        two.putLoad(1, 1);
        check.same("a new load has none", 0, two.scorchOn(1));
    }

    private void warmest() {
        check.promise(25);
        check.same("the lowest floor", 0, new HopOast().warmestFloor());
        check.same("all floors are cold", 0, Oasts.of("oast 0 0 0 0 0;floor 40;floor 50;").warmestFloor());
        HopOast oast = Oasts.of("oast 80 0 0 0 0;floor 40;floor 90;floor 90;floor 90;load 0 1 800;");
        check.same("a low limit", 0, oast.warmestFloor());
    }

    private void obstacles() {
        check.promise(26);
        HopOast oast = Oasts.of("oast 0 0 0 0 0;floor 90;floor 90;floor 90;load 0 1 101;load 1 1 500;");
        check.same("not dry", HopOast.NOT_DRY, oast.obstacleToLower(0));
        check.same("below taken", HopOast.BELOW_TAKEN, oast.obstacleToLower(1));
        check.same("no load", HopOast.NO_LOAD, oast.obstacleToLower(2));
        oast = Oasts.of("oast 0 0 0 0 0;floor 90;floor 90;load 1 1 500;");
        check.same("no load on the lowest", HopOast.NO_LOAD, oast.obstacleToLower(0));
        check.same("a wet load above the lowest", HopOast.NO_OBSTACLE, oast.obstacleToLower(1));
        oast = Oasts.of("oast 0 0 0 0 0;floor 90;load 0 1 100;");
        check.same("dry", HopOast.NO_OBSTACLE, oast.obstacleToLower(0));
        check.same("20 sacks", 40, Oasts.run(oast, "repeat 20(lower 0;load 1 1;);"));
        check.same("a dry load and 20 sacks", HopOast.NO_SACK, oast.obstacleToLower(0));
        oast.undo();
        check.same("19 sacks and a load", 39, Oasts.run(oast, "lower 0;repeat 19(load 1 1;lower 0;);"));
        check.same("20 sacks and no load", HopOast.NO_LOAD, oast.obstacleToLower(0));
        oast.putLoad(1, 101);
        check.same("a wet load and 20 sacks", HopOast.NOT_DRY, oast.obstacleToLower(0));
        oast.sell(3);
        oast.undo();
        oast.undo();
        oast.putLoad(1, 5);
        oast.sell(7);
        check.same("a sold sack was packed all the same", HopOast.NO_SACK, oast.obstacleToLower(0));
    }
}
