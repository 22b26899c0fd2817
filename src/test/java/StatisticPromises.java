/** Promises 37 to 45: statistics. */
final class StatisticPromises {
    private final Check check;

    StatisticPromises(Check check) {
        this.check = check;
    }

    void run() {
        masses();
        damped();
        vaneSteps();
        shares();
        contradictions();
    }

    private void masses() {
        HopOast oast = Oasts.of("oast 75 0 0 0 0;floor 90;floor 90;load 0 20 70;load 1 30 0;");
        check.promise(37);
        check.same("the setup", 50, oast.loadedMass());
        oast.rotate();
        oast.rotate();
        oast.putLoad(7, 800);
        check.same("another load", 57, oast.loadedMass());
        oast.undo();
        check.same("undone", 50, oast.loadedMass());
        oast.putLoad(4, 3);
        check.promise(38);
        check.same("nothing is sold", 0, oast.soldMass());
        check.promise(40);
        check.same("no income", 0, oast.income());
        oast.sell(0);
        check.promise(38);
        check.same("sack 0 is sold", 20, oast.soldMass());
        check.promise(40);
        check.same("its price", 200, oast.income());
        check.promise(39);
        check.same("nothing is burnt", 0, oast.burntMass());
        oast.rotate();
        oast.rotate();
        oast.quench(2);
        oast.sell(2);
        check.promise(38);
        check.same("sack 2 is sold", 24, oast.soldMass());
        check.promise(40);
        // moisture 103: 11 less; 4 times 89 divided by 10
        check.same("both prices", 235, oast.income());
        oast.advance(5);
        check.promise(39);
        check.same("sack 1 is burnt", 30, oast.burntMass());
        check.promise(38);
        check.same("burnt is not sold", 24, oast.soldMass());
        check.promise(37);
        check.same("all loads", 54, oast.loadedMass());
        check.promise(40);
        check.same("burnt sacks are not paid", 235, oast.income());
        oast.undo();
        check.promise(39);
        check.same("undone", 0, oast.burntMass());
        oast.undo();
        check.promise(38);
        check.same("undone", 20, oast.soldMass());
        check.promise(40);
        check.same("undone", 200, oast.income());
        check.promise(45);
        check.same("contradictions", 0, oast.contradictions());
    }

    private void damped() {
        check.promise(41);
        HopOast oast = Oasts.of("oast 90 4 0 9 0;floor 50;floor 90;load 0 1 100;");
        // draught 17
        check.same("the setup", 0, oast.dampedHeat());
        check.same("heat", 52, oast.heat());
        oast.setHeat(53);
        check.same("one degree", 1, oast.dampedHeat());
        oast.setHeat(52);
        check.same("nothing", 1, oast.dampedHeat());
        oast.setGear(3);
        check.same("two by the gear", 3, oast.dampedHeat());
        oast.setWind(1, 9);
        check.same("five by the wind", 8, oast.dampedHeat());
        check.same("heat", 45, oast.heat());
        oast.undo();
        check.same("undone", 3, oast.dampedHeat());
        // A load that dries warms the floor above it, whose limit is reached.
        HopOast two = Oasts.of("oast 60 0 0 0 0;floor 90;floor 70;load 0 1 100;");
        check.same("heat", 60, two.heat());
        two.advance(1);
        check.same("in a minute", 1, two.dampedHeat());
        check.same("heat", 59, two.heat());
        two = Oasts.of("oast 60 0 0 0 0;floor 90;floor 70;load 0 1 100;");
        two.lower(0);
        check.same("by lowering", 1, two.dampedHeat());
        two = Oasts.of("oast 60 0 0 0 0;floor 90;floor 70;load 0 1 100;");
        two.rotate();
        check.same("by rotate", 1, two.dampedHeat());
    }

    private void vaneSteps() {
        check.promise(42);
        HopOast oast = Oasts.of("oast 10 0 4 2 0;floor 90;");
        check.same("none", 0, oast.vaneSteps());
        oast.advance(3);
        check.same("three", 3, oast.vaneSteps());
        oast.advance(3);
        check.same("it stands in the wind", 4, oast.vaneSteps());
        oast.setWind(3, 9);
        oast.advance(3);
        check.same("the other way", 5, oast.vaneSteps());
        oast.setWind(7, 1);
        oast.advance(3);
        check.same("too little wind", 5, oast.vaneSteps());
        oast.undo();
        oast.undo();
        oast.undo();
        check.same("undone", 4, oast.vaneSteps());
    }

    private void shares() {
        HopOast oast = Oasts.of("oast 0 0 0 0 0;floor 90;floor 90;floor 90;load 0 1 100;load 1 1 101;load 2 1 102;");
        check.promise(43);
        check.same("three", 101.0, oast.meanMoisture());
        check.promise(44);
        check.same("three", 1.0, oast.loadedShare());
        oast.lower(0);
        check.promise(43);
        check.same("two", 101.5, oast.meanMoisture());
        check.promise(44);
        check.same("two", (double) (2.0f / 3.0f), oast.loadedShare());
        oast = Oasts.of("oast 0 0 0 0 0;floor 90;floor 90;floor 90;load 0 9 100;load 1 1 100;load 2 1 102;");
        check.promise(43);
        check.same("thirds", 302.0 / 3.0, oast.meanMoisture());
        oast = Oasts.of("oast 0 0 0 0 0;floor 90;floor 90;floor 90;");
        check.same("none", 0.0, oast.meanMoisture());
        check.promise(44);
        check.same("none", 0.0, oast.loadedShare());
        oast.putLoad(1, 0);
        check.promise(43);
        check.same("a load of moisture 0", 0.0, oast.meanMoisture());
        check.promise(44);
        check.same("one", (double) (1.0f / 3.0f), oast.loadedShare());
    }

    private void contradictions() {
        check.promise(45);
        HopOast oast = new HopOast();
        check.same("a new object", 0, oast.contradictions());
        Oasts.run(oast, "fire 90;wait 5;repeat 5(rotate;wait 3;);load 30 5;wait 60;repeat 3(rotate;);sell 0;");
        check.same("a long script", 0, oast.contradictions());
        oast.undo();
        check.same("undo", 0, oast.contradictions());
        oast.advance(120);
        check.same("minutes", 0, oast.contradictions());
        Oasts.load(oast, "oast 90 0 0 9 4;floor 40;floor 41;floor 90;floor 90;load 3 99 800;load 0 99 0;");
        check.same("a setup", 0, oast.contradictions());
    }
}
