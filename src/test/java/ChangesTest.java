/**
 * The boundary cases that "Changes and undo" and promises 49 to 64 name, a test for each sentence, but
 * for refused calls, which are in RefusalTest.
 */
public final class ChangesTest {
    private static final int NONE = HopOast.NONE;

    private final Check check = new Check();

    /** A call on an object that is handed to it. */
    private interface Call {
        void on(HopOast oast);
    }

    private ChangesTest() {
    }

    public static void main(String[] args) {
        ChangesTest test = new ChangesTest();
        test.recorded();
        test.notRecorded();
        test.atMostEight();
        test.undoLeaves();
        test.allowedNumbers();
        test.putLoad();
        test.lower();
        test.rotate();
        test.rotations();
        test.heatAndGear();
        test.wind();
        test.sell();
        test.quench();
        test.advance();
        test.writeFloors();
        test.writeSacks();
        test.outputByte();
        test.bytesOfTheOutput();
        test.save();
        test.restore();
        test.fullSlot();
        test.check.close();
    }

    /** Sack 0 is stored, sack 1 smoulders, and a dry load is on floor 0, another on floor 1. */
    private static HopOast busy() {
        HopOast oast = Oasts.of("oast 75 0 3 2 0;floor 90;floor 89;");
        Oasts.run(oast, "load 8 80;rotate;rotate;load 9 10;rotate;rotate;load 7 60;rotate;load 6 90;");
        oast.save(0);
        oast.restore(0);
        oast.truncate(0);
        return oast;
    }

    private void recorded() {
        check.sentence("The methods whose description begins with \"Change.\" are recorded; "
                + "a script is recorded as one change.");
        recorded("putLoad", o -> {
            o.lower(0);
            o.lower(1);
            o.save(1);
            o.restore(1);
        }, o -> o.putLoad(99, 800));
        recorded("lower", o -> { }, o -> o.lower(0));
        recorded("rotate", o -> { }, HopOast::rotate);
        recorded("setHeat", o -> { }, o -> o.setHeat(0));
        recorded("setGear", o -> { }, o -> o.setGear(4));
        recorded("setWind", o -> { }, o -> o.setWind(7, 9));
        recorded("sell", o -> { }, o -> o.sell(0));
        recorded("quench", o -> { }, o -> o.quench(1));
        recorded("advance", o -> { }, o -> o.advance(120));
        recorded("a script", o -> Oasts.write(o, "fire 9;gear 3;repeat 2(wait 9;rotate;);sell 0;"), HopOast::runScript);
        HopOast oast = Oasts.of("oast 30 0 0 0 0;floor 90;");
        oast.setHeat(30);
        check.same("the same heat", 1, oast.undoCount());
        oast.setGear(0);
        check.same("the same gear", 2, oast.undoCount());
        oast.setWind(0, 0);
        check.same("the same wind", 3, oast.undoCount());
        oast.rotate();
        check.same("nothing to rotate", 4, oast.undoCount());
        oast.runScript();
        check.same("an empty script", 5, oast.undoCount());
        Oasts.run(oast, "lower 0;");
        check.same("a script that executes nothing", 6, oast.undoCount());
    }

    private void recorded(String what, Call before, Call change) {
        HopOast oast = busy();
        before.on(oast);
        String seen = Oasts.see(oast);
        check.same(what + ": before", 0, oast.undoCount());
        change.on(oast);
        check.same(what + " is a change", 1, oast.undoCount());
        check.no(what + " changes the house", seen.equals(Oasts.see(oast)));
        check.same(what + ": left", 0, oast.undo());
        check.same(what + " is undone", seen, Oasts.see(oast));
    }

    private void notRecorded() {
        HopOast oast = busy();
        oast.setHeat(70);
        String seen = Oasts.see(oast);
        oast.append(0x67656172, 0, 0, 0, 0);
        oast.truncate(3);
        check.same("a wrong script", NONE, oast.runScript());
        check.yes("a wrong setup", oast.load() > 0);
        oast.writeFloors();
        oast.writeSacks();
        oast.outputByte(0);
        oast.save(0);
        oast.save(1);
        for (int i = 0; i < 2; i++) {
            oast.temperatureAfter(i, 300);
            oast.minutesUntilDry(i);
            oast.minutesUntilBurnt(i);
            oast.dryingOn(i);
            oast.obstacleToLower(i);
            oast.priceOf(i);
        }
        check.same("other calls are no changes", 1, oast.undoCount());
        check.same("and change nothing", seen, Oasts.see(oast));
    }

    private void atMostEight() {
        check.sentence("At most 8 changes can be undone; older ones are forgotten.");
        for (int changes = 0; changes <= 20; changes++) {
            HopOast oast = Oasts.of("oast 30 0 0 0 0;floor 90;");
            for (int heat = 1; heat <= changes; heat++) {
                oast.setHeat(heat);
            }
            int kept = Math.min(changes, 8);
            check.same("after " + changes, kept, oast.undoCount());
            for (int left = kept - 1; left >= 0; left--) {
                check.same("left of " + changes, left, oast.undo());
                int heat = changes - kept + left;
                check.same("the heat " + left, heat == 0 ? 30 : heat, oast.heat());
            }
            check.illegalState("one more than " + kept, () -> oast.undo());
            check.same("none", 0, oast.undoCount());
        }
        HopOast oast = Oasts.of("oast 30 0 0 0 0;floor 90;");
        for (int heat = 1; heat <= 13; heat++) {
            oast.setHeat(heat);
        }
        for (int i = 0; i < 5; i++) {
            oast.undo();
        }
        check.same("three left", 3, oast.undoCount());
        for (int heat = 41; heat <= 47; heat++) {
            oast.setHeat(heat);
        }
        check.same("eight again", 8, oast.undoCount());
        int[] due = {46, 45, 44, 43, 42, 41, 8, 7};
        for (int heat : due) {
            oast.undo();
            check.same("in the order of the changes", heat, oast.heat());
        }
        check.illegalState("the oldest two are forgotten", () -> oast.undo());
        check.sentence("Returns the number of changes that can still be undone.");
        HopOast counted = Oasts.of("oast 30 0 0 0 0;floor 90;");
        counted.setHeat(1);
        check.same("the only one", 0, counted.undo());
        for (int i = 0; i < 9; i++) {
            counted.setHeat(i);
        }
        check.same("one of 8", 7, counted.undo());
        check.sentence("Returns 0 to 8.");
        check.same("0", 0, oast.undoCount());
        Oasts.run(oast, "fire 1;".repeat(30));
        check.same("30 commands of a script are one", 1, oast.undoCount());
        oast.save(0);
        oast.restore(0);
        check.same("0 behind restore", 0, oast.undoCount());
        for (int i = 0; i < 8; i++) {
            oast.rotate();
        }
        check.same("8", 8, oast.undoCount());
        oast.rotate();
        check.same("8 of 9", 8, oast.undoCount());
        Oasts.load(oast, "oast 30 0 0 0 0;floor 90;");
        check.same("0 in a new house", 0, oast.undoCount());
    }

    private void undoLeaves() {
        check.sentence("Undoes the latest change. The text buffer, the error code and position, the output and the "
                + "slots stay as they are.");
        HopOast oast = busy();
        oast.setHeat(60);
        oast.save(1);
        Oasts.run(oast, "gear 1;fire 91;");
        oast.advance(7);
        oast.writeFloors();
        String output = Oasts.output(oast);
        Oasts.write(oast, "wind 3 3;");
        check.same("two changes", 1, oast.undo());
        check.same("minute", 0, oast.minute());
        check.same("heat", 60, oast.heat());
        check.same("the output", output, Oasts.output(oast));
        check.same("the error code", 2, oast.errorCode());
        check.same("the error position", 12, oast.errorPosition());
        check.same("the text", 9, oast.append(0, 0, 0, 0, 0));
        check.same("the script", 1, oast.runScript());
        check.same("the wind", 3, oast.windStrength());
        oast.undo();
        check.same("the error code of the latest script", 0, oast.errorCode());
        check.same("its text does not come back", 0, oast.append(0, 0, 0, 0, 0));
        oast.undo();
        check.same("a slot that was saved since", 0, oast.restore(1));
        check.same("its heat", 60, oast.heat());
        HopOast kept = busy();
        kept.setHeat(50);
        kept.save(1);
        kept.undo();
        kept.restore(1);
        check.same("undo leaves the slot", 50, kept.heat());
    }

    /** The least and the greatest number that each change takes; the first ones beyond are refused. */
    private void allowedNumbers() {
        check.sentence("- `mass`: 1 to 99 - `moisture`: 0 to 800");
        allowed("mass", 1, 99, (o, mass) -> o.putLoad(mass, 400));
        allowed("moisture", 0, 800, (o, moisture) -> o.putLoad(50, moisture));
        check.sentence("- `heat`: 0 to 90");
        allowed("heat", 0, 90, HopOast::setHeat);
        check.sentence("- `gear`: 0 to 4");
        allowed("gear", 0, 4, HopOast::setGear);
        check.sentence("- `direction`: 0 to 7 - `strength`: 0 to 9");
        allowed("direction", 0, 7, (o, direction) -> o.setWind(direction, 5));
        allowed("strength", 0, 9, (o, strength) -> o.setWind(5, strength));
        check.sentence("- `minutes`: 1 to 120");
        allowed("minutes", 1, 120, HopOast::advance);
    }

    /** A call on an object with a number. */
    private interface Numbered {
        void on(HopOast oast, int number);
    }

    private void allowed(String what, int low, int high, Numbered call) {
        for (int number = low; number <= high; number++) {
            HopOast oast = Oasts.of("oast 30 0 0 0 0;floor 90;");
            call.on(oast, number);
            check.same(what + " " + number, 1, oast.undoCount());
        }
        HopOast oast = Oasts.of("oast 30 0 0 0 0;floor 90;");
        check.illegalArgument(what + " " + (low - 1), () -> call.on(oast, low - 1));
        check.illegalArgument(what + " " + (high + 1), () -> call.on(oast, high + 1));
        check.same(what + ": no change", 0, oast.undoCount());
    }

    private void putLoad() {
        check.sentence("Change. A load is put on the highest floor.");
        for (int floors = 1; floors <= 4; floors++) {
            for (int[] load : new int[][] {{1, 0}, {99, 800}, {1, 800}, {99, 0}}) {
                HopOast oast = Oasts.of("oast 30 0 0 0 0;" + "floor 90;".repeat(floors));
                check.same("the only load", 1, oast.putLoad(load[0], load[1]));
                check.same("mass", load[0], oast.massOn(floors - 1));
                check.same("moisture", load[1], oast.moistureOn(floors - 1));
                check.same("scorch points", 0, oast.scorchOn(floors - 1));
            }
        }
        check.sentence("Returns the number of floors that hold a load.");
        HopOast three = Oasts.of("oast 30 0 0 0 0;floor 90;floor 90;floor 90;floor 90;"
                + "load 0 1 1;load 1 1 1;load 2 1 1;");
        check.same("all floors", 4, three.putLoad(5, 5));
    }

    private void lower() {
        check.sentence("Change. A load is lowered to the floor below. The load of the lowest floor is packed into a sack.");
        HopOast oast = Oasts.of("oast 75 0 0 0 0;floor 90;floor 90;floor 90;floor 90;");
        oast.putLoad(99, 150);
        oast.advance(1);
        int moisture = oast.moistureOn(3);
        for (int floor = 3; floor >= 1; floor--) {
            check.same("lower " + floor, moisture, oast.lower(floor));
            check.no("nothing is left on " + floor, oast.hasLoad(floor));
            check.same("mass on " + (floor - 1), 99, oast.massOn(floor - 1));
            check.same("moisture on " + (floor - 1), moisture, oast.moistureOn(floor - 1));
            check.same("scorch points on " + (floor - 1), 1, oast.scorchOn(floor - 1));
            check.same("no sack", 0, oast.sackCount());
        }
        oast.advance(10);
        moisture = oast.moistureOn(0);
        check.same("lower 0", moisture, oast.lower(0));
        check.no("nothing is left on 0", oast.hasLoad(0));
        check.same("a sack", 1, oast.sackCount());
        check.same("its mass", 99, oast.sackMass(0));
        check.same("its moisture", moisture, oast.sackMoisture(0));
        check.sentence("Returns the moisture of the load.");
        check.same("the greatest", 800, Oasts.of("oast 1 0 0 0 0;floor 90;floor 90;load 1 1 800;").lower(1));
        check.same("the least", 0, Oasts.of("oast 1 0 0 0 0;floor 90;load 0 1 0;").lower(0));
        check.same("the greatest of a dry one", 100, Oasts.of("oast 1 0 0 0 0;floor 90;load 0 1 100;").lower(0));
    }

    private void rotate() {
        check.sentence("Change. The floors are visited from the lowest to the highest one, and each load that can be "
                + "lowered then is lowered, as by lower. The damper acts once, after the last floor.");
        String four = "oast 75 0 0 0 0;floor 90;floor 90;floor 90;floor 90;";
        rotated("no load", four, 0, 0, "90. 86. 82. 78.");
        rotated("four dry loads", four + "load 0 1 1;load 1 1 2;load 2 1 3;load 3 1 4;", 4, 1, "90:2 86:3 82:4 78.");
        rotated("a wet one on floor 0", four + "load 0 1 101;load 1 1 2;load 2 1 3;load 3 1 4;", 0, 0,
                "90:101 85:2 81:3 77:4");
        rotated("one on the highest floor goes down one floor", four + "load 3 1 4;", 1, 0, "90. 86. 82:4 78.");
        rotated("one on floor 0", four + "load 0 1 4;", 1, 1, "90. 86. 82. 78.");
        rotated("above a gap", four + "load 0 1 101;load 1 1 0;load 3 1 4;", 1, 0, "90:101 85:0 81:4 77.");
        rotated("above a gap on floor 0", four + "load 1 1 500;load 2 1 600;load 3 1 700;", 3, 0,
                "90:500 81:600 71:700 60.");
        HopOast full = Oasts.of("oast 0 0 0 0 0;floor 90;");
        Oasts.run(full, "repeat 20(load 5 5;rotate;);");
        check.same("20 sacks by rotate", 20, full.sackCount());
        full.putLoad(5, 5);
        check.same("no 21st", 0, full.rotate());
        check.yes("the load stays", full.hasLoad(0));
        // Packed alone, the lower load would let floor 1 get 1 degree too warm until the upper one is below.
        HopOast late = Oasts.of("oast 75 0 0 0 0;floor 90;floor 85;load 0 5 100;load 1 6 100;");
        check.same("both", 2, late.rotate());
        check.same("the damper has nothing to do", 0, late.dampedHeat());
        HopOast upper = Oasts.of("oast 75 0 0 0 0;floor 90;floor 85;load 0 5 100;");
        check.same("one", 1, upper.rotate());
        check.same("the damper acts behind the last floor", 1, upper.dampedHeat());
        check.same("the sack was packed before", 90, upper.sackTemperature(0));
    }

    private void rotations() {
        check.sentence("Returns the number of loads that were lowered.");
        String four = "oast 75 0 0 0 0;floor 90;floor 90;floor 90;floor 90;";
        check.same("0", 0, Oasts.of(four).rotate());
        check.same("4", 4, Oasts.of(four + "load 0 1 1;load 1 1 2;load 2 1 3;load 3 1 4;").rotate());
    }

    private void rotated(String what, String setup, int lowered, int sacks, String floors) {
        HopOast oast = Oasts.of(setup);
        check.same(what, lowered, oast.rotate());
        check.same(what + ": sacks", sacks, oast.sackCount());
        check.same(what + ": floors", floors, Oasts.floors(oast));
        check.same(what + ": a change", 1, oast.undoCount());
    }

    private void heatAndGear() {
        check.sentence("Returns the heat after the damper has acted.");
        HopOast oast = Oasts.of("oast 30 0 0 0 0;floor 60;");
        check.same("0", 0, oast.setHeat(0));
        check.same("1", 1, oast.setHeat(1));
        check.same("at the limit", 45, oast.setHeat(45));
        check.same("1 above the limit", 45, oast.setHeat(46));
        check.same("90", 45, oast.setHeat(90));
        check.same("90 in the wind", 90, Oasts.of("oast 0 4 0 9 0;floor 88;").setHeat(90));
        check.sentence("Returns the previous gear.");
        check.same("from 0", 0, oast.setGear(4));
        check.same("from 4", 4, oast.setGear(4));
        check.same("from 4 once more", 4, oast.setGear(0));
        check.same("gear", 0, oast.gear());
    }

    private void wind() {
        check.sentence("Returns the draught afterwards.");
        HopOast oast = Oasts.of("oast 30 0 0 0 0;floor 90;");
        check.same("direction 0, strength 9", 9, oast.setWind(0, 9));
        check.same("direction 7, strength 9", 4, oast.setWind(7, 9));
        check.same("direction 1, strength 1", 0, oast.setWind(1, 1));
        check.same("direction 4, strength 9", 0, oast.setWind(4, 9));
        check.same("direction 0, strength 0", 0, oast.setWind(0, 0));
        check.same("the vane stays", 0, oast.vaneDirection());
    }

    private static HopOast cold(int mass, int moisture) {
        HopOast oast = Oasts.of("oast 0 0 0 0 0;floor 90;load 0 " + mass + " " + moisture + ";");
        oast.lower(0);
        return oast;
    }

    private void sell() {
        check.sentence("Change. A stored sack is sold for its price.");
        check.same("the greatest price", 990, cold(99, 0).sell(0));
        check.same("1 kilogram of 90", 9, cold(1, 100).sell(0));
        HopOast worthless = cold(99, 100);
        for (int i = 0; i < 8; i++) {
            worthless.quench(0);
        }
        check.same("the least price", 0, worthless.sell(0));
        check.same("sold for nothing", HopOast.SOLD, worthless.sackState(0));
        check.same("its mass", 99, worthless.soldMass());
        check.same("no income", 0, worthless.income());
        HopOast warm = Oasts.of("oast 34 0 0 0 0;floor 90;load 0 10 59;");
        warm.lower(0);
        check.same("49 degrees and 59", 100, warm.sell(0));
        HopOast moist = Oasts.of("oast 75 0 0 0 0;floor 90;load 0 10 60;");
        moist.lower(0);
        check.same("90 degrees and 60", 100, moist.sell(0));
        HopOast full = Oasts.of("oast 0 0 0 0 0;floor 90;");
        Oasts.run(full, "repeat 20(load 10 5;lower 0;);");
        check.same("sack 19", 100, full.sell(19));
        check.same("sack 0", 100, full.sell(0));
        check.same("both", 200, full.income());
    }

    private void quench() {
        check.sentence("Change. A stored sack is quenched: its temperature is 15, and its moisture increases by 100, "
                + "but not above 800.");
        HopOast oast = Oasts.of("oast 75 0 0 0 0;floor 90;load 0 10 99;");
        oast.lower(0);
        check.same("its temperature before", 90, oast.quench(0));
        int[] due = {199, 299, 399, 499, 599, 699, 799, 800, 800};
        for (int moisture : due) {
            check.same("moisture", moisture, oast.sackMoisture(0));
            check.same("15 degrees", 15, oast.sackTemperature(0));
            check.same("its temperature", 15, oast.quench(0));
        }
        HopOast exact = cold(10, 100);
        for (int i = 0; i < 7; i++) {
            exact.quench(0);
        }
        check.same("exactly 800", 800, exact.sackMoisture(0));
        exact.quench(0);
        check.same("800 again", 800, exact.sackMoisture(0));
        HopOast full = Oasts.of("oast 75 0 0 0 0;floor 90;");
        Oasts.run(full, "repeat 20(load 10 5;lower 0;);");
        check.same("sack 19", 90, full.quench(19));
        check.same("sack 0", 90, full.quench(0));
        check.same("the others smoulder", 18, full.smoulderingSacks());
        HopOast heated = Oasts.of("oast 75 0 0 0 0;floor 90;");
        Oasts.run(heated, "load 1 0;lower 0;load 1 60;lower 0;load 1 0;lower 0;wait 5;");
        check.same("more than 100 degrees", 105, heated.quench(1));
        heated.advance(1);
        check.same("it is not burnt", HopOast.STORED, heated.sackState(1));
    }

    private void advance() {
        check.sentence("Change. Minutes pass.");
        HopOast oast = Oasts.of("oast 75 0 0 0 0;floor 90;");
        check.same("1", 0, oast.advance(1));
        check.same("minute 1", 1, oast.minute());
        check.same("120", 0, oast.advance(120));
        check.same("minute 121", 121, oast.minute());
        check.sentence("Returns the number of sacks that are burnt in these minutes.");
        HopOast sacks = Oasts.of("oast 75 0 0 0 0;floor 90;");
        Oasts.run(sacks, "load 1 0;lower 0;load 1 60;lower 0;load 1 0;lower 0;load 1 99;lower 0;");
        check.same("4 minutes", 0, sacks.advance(4));
        check.same("the fifth", 2, sacks.advance(1));
        check.same("the sixth", 1, sacks.advance(1));
        check.same("no more", 0, sacks.advance(120));
        sacks.undo();
        sacks.undo();
        sacks.undo();
        sacks.undo();
        check.same("all at once", 3, sacks.advance(120));
        check.sentence("Throws `IllegalStateException` if the minute would be greater than 9999");
        HopOast late = Oasts.of("oast 75 0 0 0 0;floor 90;");
        Oasts.run(late, "repeat 20(wait 120;wait 120;);");
        Oasts.run(late, "repeat 20(wait 120;wait 120;);");
        Oasts.run(late, "wait 120;wait 120;wait 39;");
        check.same("minute 9879", 9879, late.minute());
        late.advance(120);
        check.same("exactly 9999", 9999, late.minute());
        check.illegalState("10000", () -> late.advance(1));
        late.undo();
        late.advance(119);
        late.advance(1);
        check.same("9999 by one minute", 9999, late.minute());
    }

    private void writeFloors() {
        check.sentence("Writes the floors to the output, which is replaced, from the lowest to the highest one: the "
                + "temperature, then a colon (byte 58) and the moisture of the load, or a dot (byte 46) if there is no "
                + "load. A space (byte 32) separates two floors.");
        HopOast empty = Oasts.of("oast 0 0 0 0 0;floor 90;");
        check.same("the shortest", 3, empty.writeFloors());
        check.same("one floor and no load", "15.", Oasts.output(empty));
        HopOast full = Oasts.of("oast 90 0 0 0 0;floor 90;floor 90;floor 90;floor 90;"
                + "load 0 1 800;load 1 1 800;load 2 1 800;load 3 1 800;");
        check.same("the longest", 27, full.writeFloors());
        check.same("four floors", "90:800 78:800 66:800 54:800", Oasts.output(full));
        check.same("the last byte", '0', full.outputByte(26));
        check.same("no byte more", NONE, full.outputByte(27));
        HopOast digits = Oasts.of("oast 0 0 0 0 0;floor 90;floor 90;floor 90;floor 90;"
                + "load 0 1 0;load 1 1 9;load 2 1 10;load 3 1 99;");
        check.same("one digit and two", "15:0 15:9 15:10 15:99", Oasts.floors(digits));
        check.same("three digits", "15:100 15:109 15:199 15:200",
                Oasts.floors(Oasts.of("oast 0 0 0 0 0;floor 90;floor 90;floor 90;floor 90;"
                        + "load 0 1 100;load 1 1 109;load 2 1 199;load 3 1 200;")));
        check.same("one empty floor between two", "15:799 15. 15:1",
                Oasts.floors(Oasts.of("oast 0 0 0 0 0;floor 90;floor 90;floor 90;load 0 1 799;load 2 1 1;")));
        full.writeSacks();
        check.same("the output is replaced", NONE, full.outputByte(0));
        full.writeFloors();
        Oasts.load(full, "oast 0 0 0 0 0;floor 90;");
        check.same("a longer output is replaced", 3, full.writeFloors());
        check.same("nothing of it is left", "15.", Oasts.output(full));
        check.same("no fourth byte", NONE, full.outputByte(3));
    }

    private void writeSacks() {
        check.sentence("Writes the sacks to the output, which is replaced, in ascending order: the mass, and then an "
                + "asterisk (byte 42) if the sack smoulders, a dollar sign (byte 36) if it is sold, a hash (byte 35) if "
                + "it is burnt, or nothing. A space (byte 32) separates two sacks.");
        HopOast oast = Oasts.of("oast 75 0 0 0 0;floor 90;");
        check.same("no sack", 0, oast.writeSacks());
        check.same("no byte", NONE, oast.outputByte(0));
        Oasts.run(oast, "repeat 20(load 99 0;lower 0;);");
        check.same("the longest", 79, oast.writeSacks());
        check.same("20 that smoulder", "99* ".repeat(20).trim(), Oasts.output(oast));
        check.same("byte 42", 42, oast.outputByte(78));
        check.same("no byte more", NONE, oast.outputByte(79));
        oast.advance(5);
        check.same("20 that are burnt", 79, oast.writeSacks());
        check.same("byte 35", 35, oast.outputByte(2));
        HopOast sold = Oasts.of("oast 0 0 0 0 0;floor 90;");
        Oasts.run(sold, "repeat 10(load 9 0;lower 0;load 10 0;lower 0;);");
        check.same("20 that are stored", "9 10 ".repeat(10).trim(), Oasts.sacks(sold));
        sold.sell(0);
        sold.sell(19);
        check.same("two that are sold", "9$ 10 " + "9 10 ".repeat(8) + "9 10$", Oasts.sacks(sold));
        check.same("byte 36", 36, sold.outputByte(1));
        check.same("byte 32", 32, sold.outputByte(2));
        check.same("one sack", "1", Oasts.sacks(cold(1, 60)));
    }

    private void outputByte() {
        check.sentence("Returns the byte; NONE if the output has no byte with this index.");
        HopOast oast = new HopOast();
        for (int index : new int[] {0, -1, 1, Integer.MAX_VALUE, Integer.MIN_VALUE}) {
            check.same("byte " + index + " of the empty output", NONE, oast.outputByte(index));
        }
        check.same("17 bytes", 17, oast.writeFloors());
        check.same("the first", '6', oast.outputByte(0));
        check.same("the last", '.', oast.outputByte(16));
        for (int index : new int[] {-1, 17, 99, 100, 256, 800, Integer.MAX_VALUE, Integer.MIN_VALUE}) {
            check.same("byte " + index, NONE, oast.outputByte(index));
        }
        oast.writeSacks();
        check.same("the output is empty again", NONE, oast.outputByte(0));
    }

    private void bytesOfTheOutput() {
        check.sentence("Returns the number of bytes of the output.");
        HopOast oast = Oasts.of("oast 0 0 0 0 0;floor 90;floor 90;floor 90;floor 90;");
        check.same("four floors", 15, oast.writeFloors());
        check.same("they are read", 15, Oasts.output(oast).length());
        check.same("no sack", 0, oast.writeSacks());
        check.same("nothing is read", 0, Oasts.output(oast).length());
    }

    private void save() {
        check.sentence("Saves everything that undo restores in a slot. It replaces what the slot contained.");
        for (int slot = 0; slot <= 1; slot++) {
            HopOast oast = new HopOast();
            Oasts.load(oast, "oast 75 0 3 2 0;floor 90;floor 89;load 0 5 50;");
            check.same("an empty slot", 0, oast.save(slot));
            oast.advance(3);
            oast.lower(0);
            String second = Oasts.see(oast);
            check.same("a full slot", 3, oast.save(slot));
            check.same("save is no change", 2, oast.undoCount());
            check.same("save changes nothing", second, Oasts.see(oast));
            Oasts.run(oast, "wind 5 5;fire 9;gear 3;load 4 4;wait 50;rotate;");
            check.no("the house is another", second.equals(Oasts.see(oast)));
            check.same("the second is restored", 3, oast.restore(slot));
            check.same("wholly", second, Oasts.see(oast));
            int other = 1 - slot;
            check.illegalState("the other slot stays empty", () -> oast.restore(other));
        }
        HopOast late = Oasts.of("oast 75 0 0 0 0;floor 90;");
        Oasts.run(late, "repeat 20(wait 120;wait 120;);");
        Oasts.run(late, "repeat 20(wait 120;wait 120;);");
        Oasts.run(late, "wait 120;wait 120;wait 120;wait 39;");
        check.sentence("Returns the present minute.");
        check.same("the first minute", 0, new HopOast().save(0));
        check.same("the last minute", 9999, late.save(0));
        late.undo();
        check.sentence("Returns the restored minute.");
        check.same("the last minute", 9999, late.restore(0));
        check.sentence("- `slot`: 0 or 1");
        check.same("0", 9999, late.save(0));
        check.same("1", 9999, late.save(1));
        check.outside("-1", () -> late.save(-1));
        check.outside("2", () -> late.save(2));
    }

    private void restore() {
        check.sentence("Restores what a slot contains. The slot keeps it. Afterwards no change can be undone.");
        HopOast oast = busy();
        oast.save(0);
        String first = Oasts.see(oast);
        oast.advance(4);
        oast.sell(0);
        oast.save(1);
        String second = Oasts.see(oast);
        for (int i = 0; i < 3; i++) {
            check.same("slot 0", 0, oast.restore(0));
            check.same("the first house", first, Oasts.see(oast));
            check.same("no change", 0, oast.undoCount());
            check.illegalState("to undo", () -> oast.undo());
            oast.quench(1);
            oast.rotate();
            check.same("slot 1", 4, oast.restore(1));
            check.same("the second house", second, Oasts.see(oast));
            check.same("no change", 0, oast.undoCount());
            Oasts.run(oast, "quench 1;wait 9;fire 3;");
        }
        check.same("one change behind restore", 1, oast.undoCount());
        check.same("undone", 0, oast.undo());
        check.same("back at the slot", second, Oasts.see(oast));
        oast.writeFloors();
        String output = Oasts.output(oast);
        Oasts.run(oast, "gear 5;");
        Oasts.write(oast, "gear 1;");
        oast.restore(0);
        check.same("the output stays", output, Oasts.output(oast));
        check.same("the error code stays", 2, oast.errorCode());
        check.same("the error position stays", 5, oast.errorPosition());
        check.same("the text stays", 7, oast.append(0, 0, 0, 0, 0));
    }

    /** What was packed and put later leaves no trace in what a full slot gives back, nor in what undo does. */
    private void fullSlot() {
        HopOast oast = Oasts.of("oast 75 0 0 0 0;floor 90;");
        oast.save(1);
        packTwenty(oast, 10, 2);
        String first = Oasts.see(oast);
        oast.save(0);
        oast.restore(1);
        packTwenty(oast, 50, 3);
        oast.sell(19);
        check.same("20 other sacks", 50, oast.sackMass(19));
        oast.restore(0);
        check.same("20 sacks", first, Oasts.see(oast));
        oast.quench(19);
        oast.sell(19);
        oast.undo();
        oast.undo();
        check.same("20 sacks undone", first, Oasts.see(oast));

        HopOast floors = Oasts.of("oast 75 0 0 0 0;floor 90;floor 90;floor 90;floor 90;");
        floors.save(1);
        fillFourFloors(floors, 10, 2);
        first = Oasts.see(floors);
        floors.save(0);
        floors.restore(1);
        fillFourFloors(floors, 50, 3);
        check.same("four other loads", 50, floors.massOn(3));
        floors.restore(0);
        check.same("four loads", first, Oasts.see(floors));
        floors.advance(5);
        floors.undo();
        check.same("four loads undone", first, Oasts.see(floors));
    }

    private static void packTwenty(HopOast oast, int mass, int minutes) {
        String sack = "(load " + mass + " 100;wait " + minutes + ";lower 0;);";
        Oasts.run(oast, "repeat 13" + sack);
        Oasts.run(oast, "repeat 7" + sack);
    }

    /** The lower the floor, the more scorch points. */
    private static void fillFourFloors(HopOast oast, int mass, int minutes) {
        for (int lowest = 0; lowest < 4; lowest++) {
            oast.putLoad(mass, 150 + mass);
            oast.advance(minutes);
            for (int floor = 3; floor > lowest; floor--) {
                oast.lower(floor);
            }
        }
    }
}
