import java.util.NoSuchElementException;
import java.util.function.Supplier;

/**
 * Each call that is refused throws what the document says, in the order that it says, and changes
 * nothing: two houses of the same history, of which one alone hears the call, stay alike.
 */
public final class RefusalTest {
    private static final Class<?> OUTSIDE = IndexOutOfBoundsException.class;
    private static final Class<?> ARGUMENT = IllegalArgumentException.class;
    private static final Class<?> STATE = IllegalStateException.class;
    private static final Class<?> MISSING = NoSuchElementException.class;
    private static final int LEAST = Integer.MIN_VALUE;
    private static final int GREATEST = Integer.MAX_VALUE;
    private static final int SPACES = 0x20202020;

    private final Check check = new Check();

    /** A call on an object that is handed to it. */
    private interface Call {
        void on(HopOast oast);
    }

    private RefusalTest() {
    }

    public static void main(String[] args) {
        RefusalTest test = new RefusalTest();
        test.houses();
        test.append();
        test.truncate();
        test.noSuchNumber();
        test.floors();
        test.floorsWithoutLoad();
        test.sacks();
        test.minutesOfForecasts();
        test.putLoad();
        test.lower();
        test.settings();
        test.sell();
        test.quench();
        test.advance();
        test.undo();
        test.slots();
        test.firstOfSeveral();
        test.check.close();
    }

    private void refuse(String what, Class<?> due, Supplier<HopOast> house, Call call) {
        HopOast asked = house.get();
        HopOast spared = house.get();
        check.fails(what, due, () -> call.on(asked));
        check.same(what + ": afterwards", everything(spared), everything(asked));
    }

    /** All that can be seen: the house, texts, output, the changes one by one, and the slots. */
    private static String everything(HopOast oast) {
        StringBuilder seen = new StringBuilder(Oasts.see(oast));
        seen.append('"').append(Oasts.output(oast)).append("\" ").append(oast.errorCode()).append(' ')
                .append(oast.errorPosition()).append(' ').append(oast.append(0, 0, 0, 0, 0)).append('\n');
        for (int left = oast.undoCount(); left > 0; left--) {
            seen.append(oast.undo()).append(": ").append(Oasts.glance(oast)).append('\n');
        }
        seen.append("script ").append(oast.runScript()).append(' ').append(oast.errorPosition()).append(' ')
                .append(Oasts.glance(oast)).append('\n');
        return seen.append(slot(oast, 0)).append(slot(oast, 1)).toString();
    }

    private static String slot(HopOast oast, int slot) {
        try {
            return "slot " + oast.restore(slot) + ": " + Oasts.glance(oast) + '\n';
        } catch (IllegalStateException e) {
            return "an empty slot\n";
        }
    }

    /** A wet load on floor 0, a load on floor 1, none on floor 2; texts, output, an error, changes and a slot. */
    private static HopOast wet() {
        HopOast oast = Oasts.of("oast 60 1 2 6 7;floor 70;floor 60;floor 55;load 0 20 550;load 1 30 420;");
        oast.setGear(2);
        oast.advance(3);
        oast.save(0);
        oast.setWind(5, 7);
        oast.advance(1);
        oast.writeFloors();
        Oasts.run(oast, "gear 1;gear 5;");
        Oasts.write(oast, "wait 7;");
        return oast;
    }

    /** As wet, but a load on the highest floor too. */
    private static HopOast taken() {
        HopOast oast = wet();
        oast.putLoad(9, 700);
        return oast;
    }

    /** Sack 0 is sold, sack 1 burnt, sack 2 smoulders, sack 3 is cold and stored; a dry load on floor 0. */
    private static HopOast sacked() {
        HopOast oast = Oasts.of("oast 75 0 0 0 0;floor 90;");
        Oasts.run(oast, "load 40 90;lower 0;load 30 0;lower 0;sell 0;wait 4;");
        oast.setHeat(45);
        Oasts.run(oast, "load 20 50;lower 0;load 10 80;lower 0;quench 3;wait 1;load 5 60;");
        oast.save(1);
        oast.writeSacks();
        Oasts.write(oast, "rotate;");
        return oast;
    }

    /** 20 sacks, and one more dry load. */
    private static HopOast full() {
        HopOast oast = Oasts.of("oast 20 0 0 0 0;floor 90;floor 90;load 0 7 5;");
        Oasts.run(oast, "repeat 20(lower 0;load 3 70;);");
        Oasts.run(oast, "repeat 13(rotate;rotate;load 3 70;);");
        Oasts.run(oast, "repeat 13(rotate;rotate;load 3 70;);");
        return oast;
    }

    private static HopOast late(int minute) {
        HopOast oast = Oasts.of("oast 75 1 3 2 0;floor 90;load 0 7 5;");
        Oasts.run(oast, "repeat 20(wait 120;wait 120;);");
        Oasts.run(oast, "repeat 20(wait 120;wait 120;);");
        Oasts.run(oast, "wait 120;wait 120;");
        for (int left = minute - 9840; left > 0; left -= Math.min(left, 40)) {
            oast.advance(Math.min(left, 40));
        }
        return oast;
    }

    private static HopOast filled(int length) {
        HopOast oast = new HopOast();
        Oasts.write(oast, "rotate;" + " ".repeat(length - 7));
        return oast;
    }

    /** The houses stand at the edges that their names tell. */
    private void houses() {
        check.sentence("A method that throws an exception changes nothing.");
        check.no("wet", wet().isDry(0));
        check.no("wet: the highest floor", wet().hasLoad(2));
        check.yes("taken", taken().hasLoad(1) && taken().hasLoad(2));
        check.same("sacked", "40$ 30# 20* 10", Oasts.sacks(sacked()));
        check.same("sacked: changes", 3, sacked().undoCount());
        check.same("full", 20, full().sackCount());
        check.yes("full: a dry load", full().isDry(0));
        check.same("late", 9998, late(9998).minute());
        check.same("filled", 797, filled(797).append(0, 0, 0, 0, 0));
    }

    private void append() {
        check.sentence("Throws `IllegalStateException` if the buffer would hold more than 800 bytes");
        refuse("one byte behind 800", STATE, () -> filled(800), o -> o.append(1, 0, 0, 0, 0));
        refuse("the most significant byte", STATE, () -> filled(800), o -> o.append(0, 0, 0, 0, 0x31000000));
        refuse("two bytes behind 799", STATE, () -> filled(799), o -> o.append(0x61000000, 0, 0, 0, 0x62));
        refuse("three bytes behind 798", STATE, () -> filled(798), o -> o.append(0, 0x616263, 0, 0, 0));
        refuse("20 bytes behind 781", STATE, () -> filled(781),
                o -> o.append(SPACES, SPACES, SPACES, SPACES, SPACES));
        refuse("20 bytes behind 800", STATE, () -> filled(800), o -> o.append(-1, -1, -1, -1, -1));
        refuse("the least int", STATE, () -> filled(800), o -> o.append(0, 0, LEAST, 0, 0));
        refuse("the greatest int", STATE, () -> filled(797), o -> o.append(0, 0, 0, GREATEST, 0));
    }

    private void truncate() {
        check.sentence("Throws `IllegalArgumentException` if length is out of range");
        refuse("-1", ARGUMENT, RefusalTest::wet, o -> o.truncate(-1));
        refuse("8 of 7", ARGUMENT, RefusalTest::wet, o -> o.truncate(8));
        refuse("the least int", ARGUMENT, RefusalTest::wet, o -> o.truncate(LEAST));
        refuse("the greatest int", ARGUMENT, RefusalTest::wet, o -> o.truncate(GREATEST));
        refuse("-1 of 0", ARGUMENT, HopOast::new, o -> o.truncate(-1));
        refuse("1 of 0", ARGUMENT, HopOast::new, o -> o.truncate(1));
        refuse("801 of 800", ARGUMENT, () -> filled(800), o -> o.truncate(801));
    }

    private void noSuchNumber() {
        check.sentence("IndexOutOfBoundsException is thrown if a floor, sack or slot with the given number does not exist.");
        refuse("floor 3 of 3", OUTSIDE, HopOast::new, o -> o.limitOf(3));
        refuse("floor -1", OUTSIDE, HopOast::new, o -> o.limitOf(-1));
        refuse("sack 0 of 0", OUTSIDE, HopOast::new, o -> o.sackState(0));
        refuse("sack 4 of 4", OUTSIDE, RefusalTest::sacked, o -> o.sackState(4));
        refuse("slot 2", OUTSIDE, HopOast::new, o -> o.save(2));
        refuse("slot -1", OUTSIDE, HopOast::new, o -> o.restore(-1));
    }

    private void floors() {
        check.sentence("Throws `IndexOutOfBoundsException` if there is no such floor");
        Supplier<HopOast> one = () -> Oasts.of("oast 30 0 0 0 0;floor 40;load 0 1 100;");
        Supplier<HopOast> four = () -> Oasts.of("oast 30 0 0 0 0;floor 40;floor 40;floor 40;floor 40;load 3 1 1;");
        for (int floor : new int[] {-1, 1, 3, LEAST, GREATEST}) {
            noFloor(one, floor);
        }
        for (int floor : new int[] {-1, 3, 4}) {
            noFloor(RefusalTest::wet, floor);
        }
        for (int floor : new int[] {-1, 4, LEAST, GREATEST}) {
            noFloor(four, floor);
        }
    }

    private void noFloor(Supplier<HopOast> house, int floor) {
        String which = " of floor " + floor;
        refuse("limit" + which, OUTSIDE, house, o -> o.limitOf(floor));
        refuse("temperature" + which, OUTSIDE, house, o -> o.temperatureOf(floor));
        refuse("load" + which, OUTSIDE, house, o -> o.hasLoad(floor));
        refuse("mass" + which, OUTSIDE, house, o -> o.massOn(floor));
        refuse("moisture" + which, OUTSIDE, house, o -> o.moistureOn(floor));
        refuse("scorch points" + which, OUTSIDE, house, o -> o.scorchOn(floor));
        refuse("dryness" + which, OUTSIDE, house, o -> o.isDry(floor));
        refuse("drying" + which, OUTSIDE, house, o -> o.dryingOn(floor));
        refuse("obstacle" + which, OUTSIDE, house, o -> o.obstacleToLower(floor));
        refuse("temperature in 0 minutes" + which, OUTSIDE, house, o -> o.temperatureAfter(floor, 0));
        refuse("temperature in 300 minutes" + which, OUTSIDE, house, o -> o.temperatureAfter(floor, 300));
        refuse("minutes until dry" + which, OUTSIDE, house, o -> o.minutesUntilDry(floor));
        refuse("lower" + which, OUTSIDE, house, o -> o.lower(floor));
    }

    private void floorsWithoutLoad() {
        check.sentence("Throws `NoSuchElementException` if there is no load on the floor");
        for (int floor : new int[] {0, 1, 3}) {
            Supplier<HopOast> house = () -> Oasts.of("oast 30 0 0 0 0;floor 40;floor 40;floor 40;floor 40;load 2 1 1;");
            refuse("moisture of " + floor, MISSING, house, o -> o.moistureOn(floor));
            refuse("scorch points of " + floor, MISSING, house, o -> o.scorchOn(floor));
            refuse("minutes until dry of " + floor, MISSING, house, o -> o.minutesUntilDry(floor));
        }
        Supplier<HopOast> lowered = () -> {
            HopOast oast = Oasts.of("oast 30 0 0 0 0;floor 40;floor 40;load 1 1 1;");
            oast.lower(1);
            oast.lower(0);
            return oast;
        };
        for (int floor : new int[] {0, 1}) {
            refuse("moisture left on " + floor, MISSING, lowered, o -> o.moistureOn(floor));
            refuse("scorch points left on " + floor, MISSING, lowered, o -> o.scorchOn(floor));
            refuse("dry hops left on " + floor, MISSING, lowered, o -> o.minutesUntilDry(floor));
        }
    }

    private void sacks() {
        check.sentence("Throws `IndexOutOfBoundsException` if there is no such sack");
        for (int sack : new int[] {-1, 0, 19, LEAST, GREATEST}) {
            noSack(HopOast::new, sack);
        }
        for (int sack : new int[] {-1, 4, 5}) {
            noSack(RefusalTest::sacked, sack);
        }
        for (int sack : new int[] {-1, 20, LEAST, GREATEST}) {
            noSack(RefusalTest::full, sack);
        }
        noSack(() -> {
            HopOast undone = sacked();
            undone.lower(0);
            undone.undo();
            return undone;
        }, 4);
    }

    private void noSack(Supplier<HopOast> house, int sack) {
        String which = " of sack " + sack;
        refuse("state" + which, OUTSIDE, house, o -> o.sackState(sack));
        refuse("mass" + which, OUTSIDE, house, o -> o.sackMass(sack));
        refuse("moisture" + which, OUTSIDE, house, o -> o.sackMoisture(sack));
        refuse("temperature" + which, OUTSIDE, house, o -> o.sackTemperature(sack));
        refuse("smouldering" + which, OUTSIDE, house, o -> o.isSmouldering(sack));
        refuse("quality" + which, OUTSIDE, house, o -> o.qualityOf(sack));
        refuse("price" + which, OUTSIDE, house, o -> o.priceOf(sack));
        refuse("minutes until burnt" + which, OUTSIDE, house, o -> o.minutesUntilBurnt(sack));
        refuse("sell" + which, OUTSIDE, house, o -> o.sell(sack));
        refuse("quench" + which, OUTSIDE, house, o -> o.quench(sack));
    }

    private void minutesOfForecasts() {
        check.sentence("Throws `IllegalArgumentException` if minutes is out of range");
        for (int minutes : new int[] {-1, 301, LEAST, GREATEST}) {
            refuse("after " + minutes, ARGUMENT, RefusalTest::wet, o -> o.temperatureAfter(2, minutes));
        }
    }

    private void putLoad() {
        check.sentence("Throws `IllegalArgumentException` if mass or moisture is out of range");
        for (int mass : new int[] {-1, 0, 100, LEAST, GREATEST}) {
            refuse("mass " + mass, ARGUMENT, RefusalTest::wet, o -> o.putLoad(mass, 400));
        }
        for (int moisture : new int[] {-1, 801, LEAST, GREATEST}) {
            refuse("moisture " + moisture, ARGUMENT, RefusalTest::wet, o -> o.putLoad(50, moisture));
        }
        check.sentence("Throws `IllegalStateException` if there is a load on the highest floor");
        refuse("three floors", STATE, RefusalTest::taken, o -> o.putLoad(1, 0));
        refuse("one floor", STATE, RefusalTest::sacked, o -> o.putLoad(99, 800));
    }

    private void lower() {
        check.sentence("Throws `IllegalStateException` if something prevents it (see obstacleToLower)");
        refuse("NO_LOAD", STATE, RefusalTest::wet, o -> o.lower(2));
        refuse("NO_LOAD on the lowest floor", STATE, () -> Oasts.of("oast 1 0 0 0 0;floor 40;"), o -> o.lower(0));
        refuse("BELOW_TAKEN", STATE, RefusalTest::taken, o -> o.lower(2));
        refuse("BELOW_TAKEN on floor 1", STATE, RefusalTest::taken, o -> o.lower(1));
        refuse("NOT_DRY", STATE, RefusalTest::wet, o -> o.lower(0));
        refuse("NO_SACK", STATE, RefusalTest::full, o -> o.lower(0));
    }

    private void settings() {
        check.sentence("Throws `IllegalArgumentException` if heat is out of range");
        for (int heat : new int[] {-1, 91, LEAST, GREATEST}) {
            refuse("heat " + heat, ARGUMENT, RefusalTest::wet, o -> o.setHeat(heat));
        }
        check.sentence("Throws `IllegalArgumentException` if gear is out of range");
        for (int gear : new int[] {-1, 5, LEAST, GREATEST}) {
            refuse("gear " + gear, ARGUMENT, RefusalTest::wet, o -> o.setGear(gear));
        }
        check.sentence("Throws `IllegalArgumentException` if direction or strength is out of range");
        for (int direction : new int[] {-1, 8, LEAST, GREATEST}) {
            refuse("direction " + direction, ARGUMENT, RefusalTest::wet, o -> o.setWind(direction, 3));
        }
        for (int strength : new int[] {-1, 10, LEAST, GREATEST}) {
            refuse("strength " + strength, ARGUMENT, RefusalTest::wet, o -> o.setWind(3, strength));
        }
        refuse("both", ARGUMENT, RefusalTest::wet, o -> o.setWind(8, 10));
    }

    private void sell() {
        check.sentence("Throws `IllegalStateException` if the sack is not stored, or it smoulders");
        refuse("sold", STATE, RefusalTest::sacked, o -> o.sell(0));
        refuse("burnt", STATE, RefusalTest::sacked, o -> o.sell(1));
        refuse("smouldering", STATE, RefusalTest::sacked, o -> o.sell(2));
    }

    private void quench() {
        check.sentence("Throws `IllegalStateException` if the sack is not stored");
        refuse("sold", STATE, RefusalTest::sacked, o -> o.quench(0));
        refuse("burnt", STATE, RefusalTest::sacked, o -> o.quench(1));
    }

    private void advance() {
        check.sentence("Throws `IllegalArgumentException` if minutes is out of range");
        for (int minutes : new int[] {-1, 0, 121, LEAST, GREATEST}) {
            refuse("minutes " + minutes, ARGUMENT, RefusalTest::wet, o -> o.advance(minutes));
        }
        check.sentence("Throws `IllegalStateException` if the minute would be greater than 9999");
        refuse("1 behind 9999", STATE, () -> late(9999), o -> o.advance(1));
        refuse("120 behind 9999", STATE, () -> late(9999), o -> o.advance(120));
        refuse("2 behind 9998", STATE, () -> late(9998), o -> o.advance(2));
        refuse("120 behind 9880", STATE, () -> late(9880), o -> o.advance(120));
    }

    private void undo() {
        check.sentence("Throws `IllegalStateException` if no change can be undone");
        refuse("a new object", STATE, HopOast::new, o -> o.undo());
        refuse("a new house", STATE, () -> Oasts.of("oast 30 0 0 0 0;floor 40;"), o -> o.undo());
        refuse("a ninth change", STATE, () -> {
            HopOast oast = wet();
            for (int i = 0; i < 20; i++) {
                oast.setHeat(i);
            }
            for (int i = 0; i < 8; i++) {
                oast.undo();
            }
            return oast;
        }, o -> o.undo());
        refuse("behind restore", STATE, () -> {
            HopOast oast = wet();
            oast.restore(0);
            return oast;
        }, o -> o.undo());
    }

    private void slots() {
        check.sentence("Throws `IndexOutOfBoundsException` if there is no such slot");
        for (int slot : new int[] {-1, 2, LEAST, GREATEST}) {
            refuse("save " + slot, OUTSIDE, RefusalTest::wet, o -> o.save(slot));
            refuse("restore " + slot, OUTSIDE, RefusalTest::wet, o -> o.restore(slot));
        }
        check.sentence("Throws `IllegalStateException` if the slot is empty");
        refuse("slot 1", STATE, RefusalTest::wet, o -> o.restore(1));
        refuse("slot 0", STATE, RefusalTest::sacked, o -> o.restore(0));
        refuse("slot 0 of a new object", STATE, HopOast::new, o -> o.restore(0));
        Supplier<HopOast> next = () -> {
            HopOast oast = wet();
            oast.save(1);
            oast.truncate(0);
            Oasts.load(oast, "oast 30 0 0 0 0;floor 40;");
            return oast;
        };
        refuse("slot 0 of the next house", STATE, next, o -> o.restore(0));
        refuse("slot 1 of the next house", STATE, next, o -> o.restore(1));
    }

    private void firstOfSeveral() {
        check.sentence("If several exceptions apply, the one that is listed first is thrown.");
        for (int minutes : new int[] {-1, 301, LEAST, GREATEST}) {
            refuse("no floor and minutes " + minutes, OUTSIDE, RefusalTest::wet, o -> o.temperatureAfter(3, minutes));
            refuse("floor -1 and minutes " + minutes, OUTSIDE, RefusalTest::wet, o -> o.temperatureAfter(-1, minutes));
        }
        refuse("mass 0 and a taken floor", ARGUMENT, RefusalTest::taken, o -> o.putLoad(0, 1));
        refuse("mass 100 and a taken floor", ARGUMENT, RefusalTest::taken, o -> o.putLoad(100, 1));
        refuse("moisture -1 and a taken floor", ARGUMENT, RefusalTest::taken, o -> o.putLoad(1, -1));
        refuse("moisture 801 and a taken floor", ARGUMENT, RefusalTest::taken, o -> o.putLoad(1, 801));
        refuse("no floor and 20 sacks", OUTSIDE, RefusalTest::full, o -> o.lower(2));
        for (int minutes : new int[] {-1, 0, 121, LEAST, GREATEST}) {
            refuse("the last minute and minutes " + minutes, ARGUMENT, () -> late(9999), o -> o.advance(minutes));
        }
    }
}
