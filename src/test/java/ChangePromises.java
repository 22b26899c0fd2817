/** Promises 49 to 57: changes. */
final class ChangePromises {
    private final Check check;

    ChangePromises(Check check) {
        this.check = check;
    }

    void run() {
        putLoad();
        lower();
        rotate();
        setHeat();
        setGear();
        setWind();
        sell();
        quench();
        advance();
        exceptionsChangeNothing();
    }

    private void putLoad() {
        check.promise(49);
        HopOast oast = Oasts.of("oast 0 0 0 0 0;floor 90;floor 90;load 0 5 500;");
        check.illegalArgument("mass 0", () -> oast.putLoad(0, 5));
        check.illegalArgument("mass 100", () -> oast.putLoad(100, 5));
        check.illegalArgument("moisture -1", () -> oast.putLoad(5, -1));
        check.illegalArgument("moisture 801", () -> oast.putLoad(5, 801));
        check.illegalArgument("both", () -> oast.putLoad(Integer.MIN_VALUE, Integer.MAX_VALUE));
        check.same("nothing was recorded", 0, oast.undoCount());
        check.same("two loads", 2, oast.putLoad(99, 800));
        check.same("on the highest floor", 99, oast.massOn(1));
        check.same("its moisture", 800, oast.moistureOn(1));
        check.same("the other load", 5, oast.massOn(0));
        check.same("a change", 1, oast.undoCount());
        check.illegalState("the highest floor is taken", () -> oast.putLoad(1, 1));
        check.illegalArgument("taken, and mass 0", () -> oast.putLoad(0, 1));
        check.illegalArgument("taken, and moisture 801", () -> oast.putLoad(1, 801));
        oast.undo();
        check.same("the least", 2, oast.putLoad(1, 0));
        HopOast one = Oasts.of("oast 0 0 0 0 0;floor 90;");
        check.same("the lowest floor is the highest", 1, one.putLoad(3, 4));
        check.same("on floor 0", 3, one.massOn(0));
        check.illegalState("the only floor is taken", () -> one.putLoad(3, 4));
    }

    private void lower() {
        check.promise(50);
        HopOast oast = Oasts.of("oast 30 0 0 0 0;floor 90;floor 90;floor 90;load 0 5 100;load 1 6 500;");
        check.outside("floor 3", () -> oast.lower(3));
        check.outside("floor -1", () -> oast.lower(-1));
        check.illegalState("no load", () -> oast.lower(2));
        check.illegalState("below taken", () -> oast.lower(1));
        check.same("nothing was recorded", 0, oast.undoCount());
        check.same("packed", 100, oast.lower(0));
        check.no("floor 0", oast.hasLoad(0));
        check.same("a sack", 1, oast.sackCount());
        check.same("its moisture", 100, oast.sackMoisture(0));
        check.same("its temperature", 45, oast.sackTemperature(0));
        check.same("lowered", 500, oast.lower(1));
        check.same("on floor 0", 6, oast.massOn(0));
        check.no("floor 1", oast.hasLoad(1));
        check.same("no sack", 1, oast.sackCount());
        check.same("changes", 2, oast.undoCount());
        check.illegalState("not dry", () -> oast.lower(0));
        oast.putLoad(7, 50);
        check.same("from floor 2", 50, oast.lower(2));
        check.illegalState("below taken again", () -> oast.lower(1));
        HopOast full = Oasts.of("oast 0 0 0 0 0;floor 90;");
        Oasts.run(full, "repeat 20(load 1 5;lower 0;);");
        full.putLoad(1, 5);
        check.same("20 sacks", 20, full.sackCount());
        check.illegalState("no sack", () -> full.lower(0));
        check.same("the load stays", 1, full.massOn(0));
    }

    private void rotate() {
        check.promise(51);
        HopOast oast = Oasts.of("oast 30 0 0 0 0;floor 90;floor 90;floor 90;floor 90;"
                + "load 0 5 100;load 1 6 300;load 2 7 0;load 3 8 50;");
        check.same("all", 4, oast.rotate());
        check.same("floors", 6, oast.massOn(0));
        check.same("floors", 7, oast.massOn(1));
        check.same("floors", 8, oast.massOn(2));
        check.same("floors", 0, oast.massOn(3));
        check.same("one sack", 1, oast.sackCount());
        check.same("its mass", 5, oast.sackMass(0));
        check.same("its temperature", 45, oast.sackTemperature(0));
        check.same("one change", 1, oast.undoCount());
        check.same("the lowest is not dry", 0, oast.rotate());
        check.same("a change all the same", 2, oast.undoCount());
        check.same("no sack", 1, oast.sackCount());
        HopOast gap = Oasts.of("oast 0 0 0 0 0;floor 90;floor 90;floor 90;floor 90;load 0 5 101;load 2 7 0;load 3 8 50;");
        check.same("two over the gap", 2, gap.rotate());
        check.same("floors", "15:101 15:0 15:50 15.", Oasts.floors(gap));
        HopOast none = Oasts.of("oast 0 0 0 0 0;floor 90;floor 90;");
        check.same("no load", 0, none.rotate());
        check.same("is a change", 1, none.undoCount());
        // Acting between the floors, the damper would take 8 for floor 1 while no load is below it.
        HopOast late = Oasts.of("oast 75 0 0 0 0;floor 90;floor 85;load 0 5 100;load 1 6 100;");
        check.same("heat before", 75, late.heat());
        check.same("two", 2, late.rotate());
        check.same("the damper acts once", 75, late.heat());
        check.same("dampedHeat", 0, late.dampedHeat());
        HopOast full = Oasts.of("oast 0 0 0 0 0;floor 90;floor 90;");
        Oasts.run(full, "repeat 13(load 1 5;rotate;rotate;);");
        Oasts.run(full, "repeat 7(load 1 5;rotate;rotate;);load 1 5;rotate;load 1 5;");
        check.same("no sack is left", 0, full.rotate());
    }

    private void setHeat() {
        check.promise(52);
        HopOast oast = Oasts.of("oast 30 1 0 0 0;floor 60;");
        check.illegalArgument("91", () -> oast.setHeat(91));
        check.illegalArgument("-1", () -> oast.setHeat(-1));
        check.same("nothing was recorded", 0, oast.undoCount());
        check.same("0", 0, oast.setHeat(0));
        check.same("heat", 0, oast.heat());
        check.same("a change", 1, oast.undoCount());
        check.same("the limit", 47, oast.setHeat(47));
        check.same("60 degrees", 60, oast.temperatureOf(0));
        check.same("1 too much", 47, oast.setHeat(48));
        check.same("90", 47, oast.setHeat(90));
        check.same("dampedHeat", 1 + 43, oast.dampedHeat());
        check.same("the same heat", 47, oast.setHeat(47));
        check.same("is a change", 5, oast.undoCount());
    }

    private void setGear() {
        check.promise(53);
        HopOast oast = Oasts.of("oast 60 1 0 0 0;floor 60;");
        check.illegalArgument("5", () -> oast.setGear(5));
        check.illegalArgument("-1", () -> oast.setGear(-1));
        check.same("nothing was recorded", 0, oast.undoCount());
        check.same("the previous gear", 1, oast.setGear(4));
        check.same("gear", 4, oast.gear());
        check.same("draught", 8, oast.draught());
        check.same("temperature", 54, oast.temperatureOf(0));
        check.same("a change", 1, oast.undoCount());
        check.same("the previous gear", 4, oast.setGear(0));
        check.same("the damper", 45, oast.heat());
        check.same("the same gear", 0, oast.setGear(0));
        check.same("is a change", 3, oast.undoCount());
    }

    private void setWind() {
        check.promise(54);
        HopOast oast = Oasts.of("oast 60 1 0 9 0;floor 60;");
        check.illegalArgument("direction 8", () -> oast.setWind(8, 0));
        check.illegalArgument("direction -1", () -> oast.setWind(-1, 0));
        check.illegalArgument("strength 10", () -> oast.setWind(0, 10));
        check.illegalArgument("strength -1", () -> oast.setWind(0, -1));
        check.same("nothing was recorded", 0, oast.undoCount());
        check.same("half", 6, oast.setWind(7, 9));
        check.same("direction", 7, oast.windDirection());
        check.same("strength", 9, oast.windStrength());
        check.same("the damper", 51, oast.heat());
        check.same("the vane stays", 0, oast.vaneDirection());
        check.same("a change", 1, oast.undoCount());
        check.same("against", 0, oast.setWind(4, 9));
        check.same("the damper", 45, oast.heat());
        check.same("none", 2, oast.setWind(0, 0));
        check.same("the heat stays", 45, oast.heat());
        check.same("changes", 3, oast.undoCount());
    }

    private void sell() {
        check.promise(55);
        HopOast oast = Oasts.of("oast 40 0 0 0 0;floor 90;");
        Oasts.run(oast, "load 33 92;lower 0;load 9 0;lower 0;load 9 60;lower 0;");
        check.outside("sack 3", () -> oast.sell(3));
        check.outside("sack -1", () -> oast.sell(-1));
        check.illegalState("it smoulders", () -> oast.sell(1));
        check.same("nothing was recorded", 1, oast.undoCount());
        check.same("33 times 94 divided by 10", 310, oast.sell(0));
        check.same("sold", HopOast.SOLD, oast.sackState(0));
        check.same("income", 310, oast.income());
        check.same("a change", 2, oast.undoCount());
        check.illegalState("sold already", () -> oast.sell(0));
        check.same("warm but not dry enough to smoulder", 90, oast.sell(2));
        oast.advance(60);
        check.illegalState("burnt", () -> oast.sell(1));
    }

    private void quench() {
        check.promise(56);
        HopOast oast = Oasts.of("oast 40 0 0 0 0;floor 90;");
        Oasts.run(oast, "load 33 92;lower 0;load 9 0;lower 0;");
        check.outside("sack 2", () -> oast.quench(2));
        check.outside("sack -1", () -> oast.quench(-1));
        check.same("nothing was recorded", 1, oast.undoCount());
        check.same("its temperature", 55, oast.quench(1));
        check.same("15 degrees", 15, oast.sackTemperature(1));
        check.same("moisture", 100, oast.sackMoisture(1));
        check.same("the other sack", 55, oast.sackTemperature(0));
        check.same("a change", 2, oast.undoCount());
        check.same("again", 15, oast.quench(1));
        for (int i = 0; i < 6; i++) {
            oast.quench(1);
        }
        check.same("8 times", 800, oast.sackMoisture(1));
        oast.quench(1);
        check.same("not above 800", 800, oast.sackMoisture(1));
        for (int i = 0; i < 8; i++) {
            oast.quench(0);
        }
        check.same("892", 800, oast.sackMoisture(0));
        oast.sell(0);
        check.illegalState("sold", () -> oast.quench(0));
        HopOast burnt = Oasts.of("oast 75 0 0 0 0;floor 90;load 0 1 0;");
        burnt.lower(0);
        burnt.advance(5);
        check.illegalState("burnt", () -> burnt.quench(0));
    }

    private void advance() {
        check.promise(57);
        HopOast oast = Oasts.of("oast 40 0 0 0 0;floor 90;load 0 3 0;");
        check.illegalArgument("0", () -> oast.advance(0));
        check.illegalArgument("-1", () -> oast.advance(-1));
        check.illegalArgument("121", () -> oast.advance(121));
        check.same("nothing was recorded", 0, oast.undoCount());
        oast.lower(0);
        check.same("none is burnt", 0, oast.advance(1));
        check.same("a change", 2, oast.undoCount());
        check.same("55 degrees, 2 a minute", 0, oast.advance(21));
        check.same("burnt", 1, oast.advance(120));
        check.same("minute", 142, oast.minute());
        Oasts.run(oast, "repeat 20(wait 120;wait 120;);");
        Oasts.run(oast, "repeat 20(wait 120;wait 120;);");
        Oasts.run(oast, "wait 120;wait 120;");
        check.same("minute", 9982, oast.minute());
        check.illegalState("10000", () -> oast.advance(18));
        check.illegalArgument("too many and out of range", () -> oast.advance(121));
        check.same("minute", 9982, oast.minute());
        check.same("9999", 0, oast.advance(17));
        check.illegalState("1 more", () -> oast.advance(1));
        check.same("minute", 9999, oast.minute());
    }

    private void exceptionsChangeNothing() {
        HopOast oast = Oasts.of("oast 40 0 0 0 0;floor 90;load 0 3 0;");
        Oasts.run(oast, "lower 0;load 5 500;");
        check.promise(49);
        check.illegalState("putLoad", () -> oast.putLoad(1, 1));
        check.same("the load", 5, oast.massOn(0));
        check.same("loadedMass", 8, oast.loadedMass());
        check.promise(50);
        check.illegalState("lower", () -> oast.lower(0));
        check.same("sacks", 1, oast.sackCount());
        check.promise(55);
        check.illegalState("sell", () -> oast.sell(0));
        check.same("stored", HopOast.STORED, oast.sackState(0));
        check.same("income", 0, oast.income());
        check.promise(54);
        check.illegalArgument("setWind", () -> oast.setWind(3, 10));
        check.same("windDirection", 0, oast.windDirection());
        check.promise(61);
        check.same("nothing was recorded", 1, oast.undoCount());
    }
}
