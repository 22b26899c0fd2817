/**
 * The boundary cases that promises 1 to 48 name, a test for each sentence, but for those of the text
 * buffer, which are in TextsTest, and for refused calls, which are in RefusalTest.
 */
public final class CallsTest {
    private static final int NONE = HopOast.NONE;

    private final Check check = new Check();

    private CallsTest() {
    }

    public static void main(String[] args) {
        CallsTest test = new CallsTest();
        test.newObject();
        test.load();
        test.loadWithAnError();
        test.codesOfLoad();
        test.scriptEnds();
        test.scriptStopsAtEachCommand();
        test.commandsAreCalls();
        test.scriptWithAnError();
        test.errors();
        test.leastAndGreatest();
        test.floorsWithoutLoad();
        test.warmestFloor();
        test.obstacles();
        test.sacks();
        test.hottestSack();
        test.statistics();
        test.airAndHeat();
        test.contradictions();
        test.forecasts();
        test.minutesUntilDry();
        test.minutesUntilBurnt();
        test.lastCall();
        test.check.close();
    }

    private static HopOast still(int heat, int moisture) {
        return Oasts.of("oast " + heat + " 0 0 0 0;floor 90;load 0 10 " + moisture + ";");
    }

    private static HopOast packed(int temperature, int moisture) {
        HopOast oast = still(temperature - 15, moisture);
        oast.lower(0);
        return oast;
    }

    private static HopOast twentySacks(int heat, int moisture) {
        HopOast oast = Oasts.of("oast " + heat + " 0 0 0 0;floor 90;");
        Oasts.run(oast, "repeat 20(load 99 " + moisture + ";lower 0;);");
        return oast;
    }

    private static HopOast lastMinute() {
        HopOast oast = Oasts.of("oast 75 0 0 0 0;floor 90;");
        Oasts.run(oast, "repeat 20(wait 120;wait 120;);");
        Oasts.run(oast, "repeat 20(wait 120;wait 120;);");
        Oasts.run(oast, "wait 120;wait 120;wait 120;wait 39;");
        return oast;
    }

    private void newObject() {
        check.sentence("Creates the house of the setup \"oast 60 1 2 6 7; floor 70; floor 60; floor 55; load 0 20 150; "
                + "load 1 30 420;\", with an empty text buffer, an empty output and empty slots.");
        HopOast oast = new HopOast();
        HopOast same = Oasts.of("oast 60 1 2 6 7; floor 70; floor 60; floor 55; load 0 20 150; load 1 30 420;");
        check.same("the house", Oasts.see(same), Oasts.see(oast));
        check.same("the text", 0, oast.append(0, 0, 0, 0, 0));
        check.same("the output", NONE, oast.outputByte(0));
        check.illegalState("slot 0", () -> oast.restore(0));
        check.illegalState("slot 1", () -> oast.restore(1));
        check.same("changes", 0, oast.undoCount());
        check.same("dampedHeat", 0, oast.dampedHeat());
    }

    private void load() {
        check.sentence("Without an error a new oast house begins: the minute is 0, there are no sacks, all statistics "
                + "are 0 (except the mass of the loads of the setup), nothing can be undone, and both slots are empty.");
        HopOast oast = Oasts.of("oast 75 0 4 2 0;floor 90;floor 90;load 0 7 0;load 1 9 80;");
        Oasts.run(oast, "rotate;lower 0;sell 1;fire 90;load 3 3;wait 9;");
        check.yes("statistics before", oast.soldMass() > 0 && oast.burntMass() > 0 && oast.income() > 0
                && oast.dampedHeat() > 0 && oast.vaneSteps() > 0 && oast.sackCount() > 0);
        oast.save(0);
        oast.save(1);
        for (int i = 0; i < 9; i++) {
            oast.setGear(i % 5);
        }
        oast.writeSacks();
        check.same("load", 0, Oasts.load(oast, "oast 75 0 4 2 0;floor 90;floor 90;load 0 99 0;load 1 1 80;"));
        check.same("the new house", Oasts.see(Oasts.of("oast 75 0 4 2 0;floor 90;floor 90;load 0 99 0;load 1 1 80;")),
                Oasts.see(oast));
        check.same("minute", 0, oast.minute());
        check.same("sacks", 0, oast.sackCount());
        check.outside("sack 0", () -> oast.sackState(0));
        check.same("loadedMass", 100, oast.loadedMass());
        check.same("soldMass", 0, oast.soldMass());
        check.same("burntMass", 0, oast.burntMass());
        check.same("income", 0, oast.income());
        check.same("dampedHeat", 0, oast.dampedHeat());
        check.same("vaneSteps", 0, oast.vaneSteps());
        check.same("undoCount", 0, oast.undoCount());
        check.illegalState("undo", () -> oast.undo());
        check.illegalState("slot 0", () -> oast.restore(0));
        check.illegalState("slot 1", () -> oast.restore(1));
        check.same("the output is no part of the house", "7# 9$", Oasts.output(oast));
        oast.advance(2);
        check.same("slots can be filled again", 2, oast.save(1));
        check.illegalState("the other stays empty", () -> oast.restore(0));
        check.same("the slot is restored", 2, oast.restore(1));
        Oasts.load(oast, "oast 1 1 1 1 1;floor 40;");
        check.same("the mass of no loads", 0, oast.loadedMass());
    }

    private void loadWithAnError() {
        check.sentence("With an error the house stays as it is.");
        String[] wrong = {"", "oast 10 1 2 6 7;floor 40;load 0 5 5;x", "oast 10 1 2 6 7;floor 40;load 0 5 5;load 0 5 5;",
            "oast 10 1 2 6 7;floor 40;floor 41;floor 42;floor 43;floor 44;", "oast 91 1 2 6 7;floor 40;"};
        for (String text : wrong) {
            HopOast oast = new HopOast();
            oast.advance(3);
            oast.save(1);
            oast.lower(0);
            oast.writeFloors();
            String before = Oasts.see(oast) + Oasts.output(oast) + oast.undoCount();
            check.yes("an error", Oasts.load(oast, text) > 0);
            check.same("the house after '" + text + "'", before,
                    Oasts.see(oast) + Oasts.output(oast) + oast.undoCount());
            check.same("the changes", 1, oast.undo());
            check.same("the slot", 3, oast.restore(1));
            check.illegalState("the empty slot", () -> oast.restore(0));
        }
    }

    private void codesOfLoad() {
        check.sentence("Returns 0, or the error code.");
        String floor = "oast 10 1 2 6 7;floor 40;";
        check.same("no error", 0, Oasts.load(new HopOast(), floor));
        check.same("SYNTAX", HopOast.SYNTAX, Oasts.load(new HopOast(), floor + "x"));
        check.same("OUT_OF_RANGE", HopOast.OUT_OF_RANGE, Oasts.load(new HopOast(), floor + "floor 91;"));
        check.same("FLOOR_TAKEN", HopOast.FLOOR_TAKEN, Oasts.load(new HopOast(), floor + "load 0 1 1;load 0 1 1;"));
        check.same("TOO_MANY", HopOast.TOO_MANY, Oasts.load(new HopOast(), floor + "floor 40;".repeat(4)));
        check.sentence("`NONE = -1`: Returned if there is no such value.");
        HopOast oast = new HopOast();
        check.same("no output", -1, oast.outputByte(0));
        check.same("no error position", -1, oast.errorPosition());
        check.same("no stored sack", -1, oast.hottestSack());
        check.same("no number of commands", -1, Oasts.run(oast, "x"));
        check.same("never dry", -1, still(9, 101).minutesUntilDry(0));
        check.same("never burnt", -1, packed(49, 0).minutesUntilBurnt(0));
    }

    private void scriptEnds() {
        check.sentence("The execution ends before the first command whose method would throw an exception, and after 40 "
                + "commands; \"repeat\" itself is not counted.");
        executed(39, 39, "repeat 19(wait 1;wait 1;);wait 1;");
        executed(40, 40, "repeat 20(wait 1;wait 1;);");
        executed(40, 40, "repeat 20(wait 1;wait 1;);wait 1;");
        executed(40, 40, "repeat 20(repeat 20(wait 1;););wait 1;");
        executed(40, 40, "repeat 20(wait 1;wait 1;wait 1;);");
        executed(40, 40, "repeat 1(repeat 1(wait 1;););repeat 20(wait 1;);repeat 20(wait 1;);");
        executed(20, 20, "repeat 20(wait 1;);");
        executed(1, 1, "repeat 1(wait 1;);");
        executed(1, 1, "repeat 1(repeat 1(wait 1;););");
        executed(1, 1, "repeat 20();repeat 20(repeat 20(););wait 1;");
        executed(0, 0, "repeat 20(repeat 20(););");
        executed(0, 0, "");
        executed(30, 30, "wait 1;".repeat(30));
        executed(6, 9, "repeat 3(wait 1;wait 2;);");
        executed(6, 4 + 2 * 6 + 5, "wait 4;repeat 2(wait 1;wait 5;);wait 5;");
        executed(14, 1 + 2 * (2 + 2 * (3 + 4) + 5) + 6,
                "wait 1;repeat 2(wait 2;repeat 2(wait 3;wait 4;);wait 5;);wait 6;");
        executed(40, 40 + 40 * 119, "repeat 20(wait 120;wait 120;);");
        HopOast oast = new HopOast();
        check.same("the 40th command", 40, Oasts.run(oast, "repeat 13(wait 1;wait 1;wait 1;);gear 4;gear 3;"));
        check.same("the gear of the 40th", 4, oast.gear());
    }

    private void executed(int commands, int minutes, String script) {
        HopOast oast = new HopOast();
        check.same("commands of " + script, commands, Oasts.run(oast, script));
        check.same("minutes of " + script, minutes, oast.minute());
        check.same("one change of " + script, 1, oast.undoCount());
        check.same("no error of " + script, 0, oast.errorCode());
    }

    /** Each command whose method can throw, in front of one that cannot. */
    private void scriptStopsAtEachCommand() {
        check.sentence("Commands that were executed before stay in effect.");
        stops("load", "load 5 500;");
        stops("floor 1 of 1", "lower 1;");
        stops("floor 3 of 1", "lower 3;");
        stops("a load that is not dry", "lower 0;");
        stops("no sack", "sell 0;");
        stops("sack 19 of none", "sell 19;");
        stops("no sack to quench", "quench 0;");
        stops("sack 19 to quench", "quench 19;");
        HopOast oast = Oasts.of("oast 75 0 0 0 0;floor 90;floor 90;");
        check.same("no load", 1, Oasts.run(oast, "gear 1;lower 0;gear 2;"));
        check.same("no load on floor 1", 1, Oasts.run(oast, "gear 0;lower 1;gear 2;"));
        check.same("below taken", 4, Oasts.run(oast, "load 5 0;lower 1;load 5 500;gear 1;lower 1;gear 2;"));
        check.same("a sack that smoulders", 2, Oasts.run(oast, "lower 0;gear 0;sell 0;gear 2;"));
        check.same("a burnt sack", 1, Oasts.run(oast, "wait 6;sell 0;gear 2;"));
        check.same("a burnt sack to quench", 1, Oasts.run(oast, "gear 0;quench 0;gear 2;"));
        check.same("a sold sack", 5, Oasts.run(oast, "wait 110;lower 1;lower 0;quench 1;sell 1;sell 1;gear 2;"));
        check.same("a sold sack to quench", 1, Oasts.run(oast, "gear 0;quench 1;gear 2;"));
        check.same("gear 2 was never reached", 0, oast.gear());
        HopOast full = twentySacks(20, 70);
        check.same("20 sacks", 2, Oasts.run(full, "load 5 5;gear 1;lower 0;gear 2;"));
        check.same("gear", 1, full.gear());
        HopOast late = lastMinute();
        check.same("the last minute", 1, Oasts.run(late, "gear 1;wait 1;gear 2;"));
        check.same("gear", 1, late.gear());
        check.same("minute", 9999, late.minute());
        late.undo();
        late.undo();
        check.same("a minute too many", 4, Oasts.run(late, "wait 120;wait 120;wait 120;gear 3;wait 40;gear 2;"));
        check.same("minute", 9960, late.minute());
        check.same("gear", 3, late.gear());
        check.same("the last minutes", 2, Oasts.run(late, "wait 39;gear 2;"));
        check.same("minute", 9999, late.minute());
    }

    private void stops(String what, String command) {
        HopOast oast = Oasts.of("oast 30 0 0 0 0;floor 90;load 0 5 500;");
        check.same(what, 2, Oasts.run(oast, "gear 1;fire 20;" + command + "gear 2;wait 1;"));
        check.same(what + ": gear", 1, oast.gear());
        check.same(what + ": heat", 20, oast.heat());
        check.same(what + ": minute", 0, oast.minute());
        check.same(what + ": one change", 1, oast.undoCount());
        check.same(what + ": as the first command", 0, Oasts.run(oast, command + "gear 2;"));
        check.same(what + ": a change all the same", 2, oast.undoCount());
        check.same(what + ": no error", 0, oast.errorCode());
    }

    private void commandsAreCalls() {
        check.sentence("Each command calls the method with the same meaning: putLoad for \"load\", lower, rotate, "
                + "setHeat for \"fire\", setGear, setWind, sell, quench and advance for \"wait\".");
        asCall("load 1 0;", o -> o.putLoad(1, 0));
        asCall("load 99 800;", o -> o.putLoad(99, 800));
        asCall("lower 0;", o -> o.lower(0));
        asCall("lower 1;", o -> o.lower(1));
        asCall("lower 3;", o -> o.lower(3));
        asCall("rotate;", HopOast::rotate);
        asCall("fire 0;", o -> o.setHeat(0));
        asCall("fire 90;", o -> o.setHeat(90));
        asCall("gear 0;", o -> o.setGear(0));
        asCall("gear 4;", o -> o.setGear(4));
        asCall("wind 0 0;", o -> o.setWind(0, 0));
        asCall("wind 7 9;", o -> o.setWind(7, 9));
        asCall("sell 0;", o -> o.sell(0));
        asCall("sell 1;", o -> o.sell(1));
        asCall("sell 19;", o -> o.sell(19));
        asCall("quench 0;", o -> o.quench(0));
        asCall("quench 19;", o -> o.quench(19));
        asCall("wait 1;", o -> o.advance(1));
        asCall("wait 120;", o -> o.advance(120));
    }

    private interface Call {
        void on(HopOast oast);
    }

    private void asCall(String command, Call call) {
        String setup = "oast 75 1 4 6 0;floor 90;floor 80;floor 85;load 0 5 100;load 1 6 50;";
        HopOast scripted = Oasts.of(setup);
        HopOast called = Oasts.of(setup);
        for (HopOast oast : new HopOast[] {scripted, called}) {
            oast.rotate();
            oast.lower(0);
            oast.putLoad(7, 500);
            oast.lower(2);
            oast.advance(2);
        }
        int executed = 1;
        try {
            call.on(called);
        } catch (RuntimeException e) {
            executed = 0;
        }
        check.same(command, executed, Oasts.run(scripted, command));
        check.same(command + " and the call", Oasts.see(called), Oasts.see(scripted));
        check.same(command + " behind others and in brackets", 5 + executed, Oasts.run(Oasts.of(setup),
                "rotate;lower 0;load 7 500;lower 2;wait 2;repeat 1(repeat 1(" + command + "););"));
    }

    private void scriptWithAnError() {
        check.sentence("Returns the number of executed commands, or NONE if the text has an error; "
                + "then the call is not a change.");
        HopOast oast = new HopOast();
        String before = Oasts.see(oast);
        check.same("an error at the end", NONE, Oasts.run(oast, "gear 4;fire 3;wait 9;x"));
        check.same("nothing is executed", before, Oasts.see(oast));
        check.same("no change", 0, oast.undoCount());
        check.same("an error at the beginning", NONE, Oasts.run(oast, "x;gear 4;"));
        check.same("no change", 0, oast.undoCount());
        check.same("no command", 0, oast.runScript());
        check.same("a change", 1, oast.undoCount());
        check.same("it is undone", 0, oast.undo());
        check.same("nothing was done", before, Oasts.see(oast));
    }

    private void errors() {
        check.sentence("Returns the error code; 0 if there was no error or no such call.");
        HopOast oast = new HopOast();
        check.same("no such call", 0, oast.errorCode());
        oast.load();
        check.same("the empty setup", 1, oast.errorCode());
        oast.runScript();
        check.same("the empty script", 0, oast.errorCode());
        Oasts.run(oast, "gear 9;");
        check.same("a script", 2, oast.errorCode());
        Oasts.load(oast, "oast 60 1 2 6 7;floor 70;");
        check.same("a good setup", 0, oast.errorCode());
        check.sentence("Returns the position; NONE if there was no error or no such call.");
        HopOast other = new HopOast();
        check.same("no such call", NONE, other.errorPosition());
        other.load();
        check.same("the empty setup", 0, other.errorPosition());
        other.runScript();
        check.same("the empty script", NONE, other.errorPosition());
        Oasts.run(other, "gear 9;");
        check.same("a script", 5, other.errorPosition());
        other.truncate(0);
        other.undo();
        check.same("other calls leave it", 5, other.errorPosition());
        Oasts.load(other, "oast 60 1 2 6 7;floor 70;");
        check.same("a good setup", NONE, other.errorPosition());
    }

    private void leastAndGreatest() {
        check.sentence("Returns the minute, from 0.");
        check.same("0", 0, new HopOast().minute());
        check.same("9999", 9999, lastMinute().minute());
        check.sentence("Returns 0 to 90.");
        check.same("0", 0, Oasts.of("oast 0 4 0 9 0;floor 90;").heat());
        check.same("90", 90, Oasts.of("oast 90 4 0 9 0;floor 90;").heat());
        check.sentence("Returns 0 to 4.");
        check.same("gear 0", 0, Oasts.of("oast 0 0 0 9 0;floor 90;").gear());
        check.same("gear 4", 4, Oasts.of("oast 0 4 0 9 0;floor 90;").gear());
        check.same("deviation 0", 0, Oasts.of("oast 0 0 7 0 7;floor 90;").deviation());
        check.same("deviation 4", 4, Oasts.of("oast 0 0 7 0 3;floor 90;").deviation());
        check.sentence("Returns 0 to 7.");
        check.same("wind 0", 0, Oasts.of("oast 0 0 0 9 7;floor 90;").windDirection());
        check.same("vane 7", 7, Oasts.of("oast 0 0 0 9 7;floor 90;").vaneDirection());
        check.same("wind 7", 7, Oasts.of("oast 0 0 7 9 0;floor 90;").windDirection());
        check.same("vane 0", 0, Oasts.of("oast 0 0 7 9 0;floor 90;").vaneDirection());
        check.sentence("Returns 0 to 9.");
        check.same("0", 0, Oasts.of("oast 0 0 7 0 0;floor 90;").windStrength());
        check.same("9", 9, Oasts.of("oast 0 0 7 9 0;floor 90;").windStrength());
        check.sentence("Returns the draught, at least 0.");
        check.same("0 - 4", 0, Oasts.of("oast 1 0 4 9 0;floor 40;").draught());
        check.same("8 + 9", 17, Oasts.of("oast 1 4 4 9 4;floor 40;").draught());
        check.sentence("Returns 1 to 4.");
        check.same("1", 1, Oasts.of("oast 1 0 4 9 0;floor 40;").floorCount());
        check.same("4", 4, Oasts.of("oast 1 0 4 9 0;floor 40;floor 40;floor 40;floor 40;").floorCount());
        check.sentence("Returns 40 to 90.");
        check.same("40", 40, Oasts.of("oast 1 0 4 9 0;floor 40;floor 90;").limitOf(0));
        check.same("90", 90, Oasts.of("oast 1 0 4 9 0;floor 40;floor 90;").limitOf(1));
        check.sentence("Returns 15 to the limit of the floor.");
        check.same("15", 15, Oasts.of("oast 0 4 0 9 0;floor 40;").temperatureOf(0));
        check.same("40", 40, Oasts.of("oast 90 0 0 0 0;floor 40;").temperatureOf(0));
        check.same("90", 90, Oasts.of("oast 90 0 0 0 0;floor 90;").temperatureOf(0));
        check.sentence("Returns 0 to 800.");
        check.same("0", 0, still(0, 0).moistureOn(0));
        check.same("800", 800, still(0, 800).moistureOn(0));
        check.sentence("Returns 0 to 100.");
        HopOast scorched = still(75, 0);
        check.same("no scorch point", 0, scorched.scorchOn(0));
        scorched.advance(101);
        check.same("100 scorch points", 100, scorched.scorchOn(0));
        scorched.lower(0);
        check.same("the least quality", 0, scorched.qualityOf(0));
        check.same("the greatest quality", 100, packed(15, 80).qualityOf(0));
    }

    private void floorsWithoutLoad() {
        HopOast oast = Oasts.of("oast 75 0 0 0 0;floor 90;floor 90;load 1 5 0;");
        check.sentence("Returns true if there is one.");
        check.no("floor 0", oast.hasLoad(0));
        check.yes("floor 1", oast.hasLoad(1));
        check.sentence("Returns the number of kilograms; 0 if there is no load.");
        check.same("no load", 0, oast.massOn(0));
        oast.lower(1);
        check.same("the load is gone", 0, oast.massOn(1));
        check.same("the load is there", 5, oast.massOn(0));
        check.sentence("Returns true if there is a load and it is dry.");
        check.yes("0", oast.isDry(0));
        check.no("no load", oast.isDry(1));
        check.yes("100", still(0, 100).isDry(0));
        check.no("101", still(0, 101).isDry(0));
        check.sentence("Returns the decrease; 0 if there is no load.");
        check.same("no load", 0, oast.dryingOn(1));
        check.same("nothing left to dry", 0, oast.dryingOn(0));
        check.same("6 of 75 degrees more, but 7 are too many", 6, still(75, 6).dryingOn(0));
        check.same("7", 7, still(75, 7).dryingOn(0));
        check.same("8", 7, still(75, 8).dryingOn(0));
        check.same("15 degrees", 0, still(0, 800).dryingOn(0));
        check.sentence("Tells by how much the moisture of the load on a floor would decrease in step 3 if the temperature "
                + "and the draught stayed as they are now.");
        check.same("the greatest draught", 73 * 18 / 10,
                Oasts.of("oast 90 4 0 9 0;floor 90;load 0 5 800;").dryingOn(0));
        HopOast tenth = still(40, 800);
        tenth.advance(9);
        check.same("the heat of now, not of step 1", 4, tenth.dryingOn(0));
        HopOast turning = Oasts.of("oast 60 0 1 8 0;floor 90;load 0 5 800;");
        check.same("the draught of now, not of step 2", 56 * 5 / 10, turning.dryingOn(0));
    }

    private void warmestFloor() {
        check.sentence("Returns the floor, of several such floors the lowest one.");
        String four = "floor 90;floor 90;floor 90;floor 90;";
        check.same("floor 0 is the warmest", 0, Oasts.of("oast 75 0 0 0 0;" + four).warmestFloor());
        check.same("all are as cold", 0, Oasts.of("oast 0 4 0 9 0;" + four).warmestFloor());
        check.same("one floor", 0, Oasts.of("oast 30 0 0 0 0;floor 40;").warmestFloor());
        check.same("1 degree more", 0, Oasts.of("oast 1 0 0 0 0;" + four).warmestFloor());
    }

    private void obstacles() {
        check.sentence("Returns the first reason that applies, in this order: NO_LOAD; for floors above the lowest one "
                + "BELOW_TAKEN; for the lowest floor NOT_DRY, NO_SACK; otherwise NO_OBSTACLE.");
        HopOast oast = Oasts.of("oast 0 0 0 0 0;floor 90;floor 90;floor 90;floor 90;load 0 1 101;load 1 1 800;");
        check.same("wet", HopOast.NOT_DRY, oast.obstacleToLower(0));
        check.same("wet, and below taken", HopOast.BELOW_TAKEN, oast.obstacleToLower(1));
        check.same("none, and below taken", HopOast.NO_LOAD, oast.obstacleToLower(2));
        check.same("none at all", HopOast.NO_LOAD, oast.obstacleToLower(3));
        oast.putLoad(1, 800);
        check.same("a wet load over an empty floor", HopOast.NO_OBSTACLE, oast.obstacleToLower(3));
        check.same("100", HopOast.NO_OBSTACLE, still(0, 100).obstacleToLower(0));
        check.same("101", HopOast.NOT_DRY, still(0, 101).obstacleToLower(0));
        HopOast full = twentySacks(0, 70);
        check.same("no load and 20 sacks", HopOast.NO_LOAD, full.obstacleToLower(0));
        full.putLoad(1, 100);
        check.same("dry, and 20 sacks", HopOast.NO_SACK, full.obstacleToLower(0));
        full.undo();
        full.putLoad(1, 101);
        check.same("wet, and 20 sacks", HopOast.NOT_DRY, full.obstacleToLower(0));
        full.undo();
        full.undo();
        check.same("a script undone", 38, Oasts.run(full, "repeat 19(load 1 1;lower 0;);"));
        full.putLoad(1, 100);
        check.same("19 sacks", HopOast.NO_OBSTACLE, full.obstacleToLower(0));
        check.sentence("Obstacle to lowering: there is none.");
        check.same("dry on the lowest floor", 0, still(0, 100).obstacleToLower(0));
        check.same("wet over an empty floor", 0, oast.obstacleToLower(3));
        check.sentence("Obstacle to lowering: there is no load on the floor.");
        check.same("the lowest floor", 1, Oasts.of("oast 0 0 0 0 0;floor 90;").obstacleToLower(0));
        check.same("the highest floor", 1, new HopOast().obstacleToLower(2));
        check.sentence("Obstacle to lowering: there is a load on the floor below.");
        check.same("floor 1", 2, new HopOast().obstacleToLower(1));
        check.sentence("Obstacle to lowering: the load is not dry.");
        check.same("the lowest floor", 3, still(0, 101).obstacleToLower(0));
        check.sentence("Obstacle to lowering: 20 sacks were packed.");
        HopOast twenty = twentySacks(0, 70);
        twenty.sell(0);
        twenty.putLoad(1, 1);
        check.same("one of them is sold", 4, twenty.obstacleToLower(0));
        HopOast upper = Oasts.of("oast 0 0 0 0 0;floor 90;floor 90;");
        Oasts.run(upper, "repeat 13(load 1 1;rotate;rotate;);");
        Oasts.run(upper, "repeat 7(load 1 1;rotate;rotate;);load 1 1;");
        check.same("20 sacks do not matter above", HopOast.NO_OBSTACLE, upper.obstacleToLower(1));
    }

    private void sacks() {
        check.sentence("Returns 0 to 20.");
        check.same("0", 0, new HopOast().sackCount());
        check.same("20", 20, twentySacks(0, 0).sackCount());
        check.sentence("Returns STORED, SOLD or BURNT.");
        HopOast states = Oasts.of("oast 75 0 0 0 0;floor 90;");
        Oasts.run(states, "load 1 60;lower 0;load 1 60;lower 0;load 1 60;lower 0;load 1 0;lower 0;sell 1;wait 5;");
        check.same("stored", HopOast.STORED, states.sackState(0));
        check.same("sold", HopOast.SOLD, states.sackState(1));
        check.same("stored beside a burnt one", HopOast.STORED, states.sackState(2));
        check.same("burnt", HopOast.BURNT, states.sackState(3));
        check.sentence("Returns the number of sacks that smoulder.");
        check.same("none is packed", 0, new HopOast().smoulderingSacks());
        check.same("none of 20", 0, twentySacks(75, 60).smoulderingSacks());
        check.same("20 of 20", 20, twentySacks(75, 59).smoulderingSacks());
        HopOast oast = Oasts.of("oast 75 0 0 0 0;floor 90;");
        Oasts.run(oast, "load 99 100;lower 0;load 1 100;lower 0;load 50 0;lower 0;sell 0;wait 4;");
        check.sentence("Returns the number of kilograms, whatever the state of the sack is.");
        check.same("sold", 99, oast.sackMass(0));
        check.same("stored", 1, oast.sackMass(1));
        check.same("smouldering", 50, oast.sackMass(2));
        check.sentence("Returns true if it is stored and smoulders.");
        check.no("sold", oast.isSmouldering(0));
        check.no("stored", oast.isSmouldering(1));
        check.yes("smouldering", oast.isSmouldering(2));
        oast.advance(1);
        check.no("burnt", oast.isSmouldering(2));
        check.sentence("Returns the temperature; of a sack that is sold or burnt, the temperature that it had then.");
        oast.advance(90);
        check.same("sold", 90, oast.sackTemperature(0));
        check.same("burnt", 100, oast.sackTemperature(2));
        check.same("stored", 15, oast.sackTemperature(1));
        check.sentence("Returns the price, whatever the state of the sack is.");
        check.same("sold", 99 * 90 / 10, oast.priceOf(0));
        check.same("stored", 9, oast.priceOf(1));
        check.same("burnt", 500, oast.priceOf(2));
        check.sentence("Returns the moisture in tenths of a percent.");
        check.same("sold", 100, oast.sackMoisture(0));
        check.same("burnt", 0, oast.sackMoisture(2));
        for (int i = 0; i < 8; i++) {
            oast.quench(1);
        }
        check.same("the greatest", 800, oast.sackMoisture(1));
    }

    private void hottestSack() {
        check.sentence("Returns the sack, of several such sacks the one with the lowest number; "
                + "NONE if no sack is stored.");
        check.same("no sack", NONE, new HopOast().hottestSack());
        check.same("20 of the same", 0, twentySacks(75, 80).hottestSack());
        check.same("one", 0, packed(15, 0).hottestSack());
        HopOast oast = Oasts.of("oast 0 0 0 0 0;floor 90;");
        Oasts.run(oast, "fire 40;load 1 90;lower 0;fire 41;load 1 90;lower 0;load 1 90;lower 0;fire 40;load 1 90;lower 0;");
        check.same("1 degree more", 1, oast.hottestSack());
        oast.sell(1);
        check.same("the next one as hot", 2, oast.hottestSack());
        oast.sell(2);
        check.same("the first of the others", 0, oast.hottestSack());
        oast.sell(0);
        check.same("the last", 3, oast.hottestSack());
        oast.sell(3);
        check.same("all are sold", NONE, oast.hottestSack());
        HopOast burnt = packed(90, 0);
        burnt.advance(5);
        check.same("all are burnt", NONE, burnt.hottestSack());
    }

    private void statistics() {
        check.sentence("Returns the mass of all loads that were put on floors, including those of the setup.");
        check.same("none", 0, Oasts.of("oast 0 0 0 0 0;floor 90;").loadedMass());
        check.same("four of the setup", 4 * 99, Oasts.of("oast 0 0 0 0 0;floor 90;floor 90;floor 90;floor 90;"
                + "load 0 99 0;load 1 99 0;load 2 99 0;load 3 99 0;").loadedMass());
        HopOast full = twentySacks(0, 80);
        check.same("20 put", 20 * 99, full.loadedMass());
        full.sell(0);
        check.same("a sold one counts", 20 * 99, full.loadedMass());
        check.illegalArgument("mass 0", () -> full.putLoad(0, 0));
        check.same("a refused one does not", 20 * 99, full.loadedMass());
        check.sentence("Returns the sum of the prices of all sacks that were sold.");
        check.same("one", 990, full.income());
        for (int sack = 1; sack < 20; sack++) {
            full.sell(sack);
        }
        check.same("20", 20 * 990, full.income());
        check.same("none", 0, new HopOast().income());
        check.sentence("Returns the mass of all sacks that were sold.");
        check.same("20", 20 * 99, full.soldMass());
        check.same("none", 0, new HopOast().soldMass());
        check.sentence("Returns the mass of all sacks that were burnt.");
        check.same("none", 0, full.burntMass());
        HopOast burnt = twentySacks(75, 0);
        burnt.advance(4);
        check.same("none yet", 0, burnt.burntMass());
        burnt.advance(1);
        check.same("20", 20 * 99, burnt.burntMass());
        check.sentence("Returns the sum of their moistures divided by their number, both converted to double; "
                + "0.0 if there are none.");
        check.same("none", 0.0, Oasts.of("oast 0 0 0 0 0;floor 90;").meanMoisture());
        check.same("0", 0.0, still(0, 0).meanMoisture());
        check.same("800", 800.0, still(0, 800).meanMoisture());
        check.same("thirds are not rounded", 302.0 / 3.0, Oasts.of("oast 0 0 0 0 0;floor 90;floor 90;floor 90;floor 90;"
                + "load 0 99 100;load 2 50 101;load 3 1 101;").meanMoisture());
        check.sentence("Returns their number divided by the number of floors, both converted to float.");
        check.same("none", 0.0, Oasts.of("oast 0 0 0 0 0;floor 90;").loadedShare());
        check.same("all", 1.0, still(0, 0).loadedShare());
        check.same("two of three", (double) (2f / 3f), new HopOast().loadedShare());
    }

    private void airAndHeat() {
        check.sentence("Returns the number of steps that the vane has turned.");
        HopOast oast = Oasts.of("oast 30 0 4 2 0;floor 90;");
        check.same("none", 0, oast.vaneSteps());
        oast.advance(1);
        check.same("one", 1, oast.vaneSteps());
        oast.advance(3);
        check.same("four", 4, oast.vaneSteps());
        oast.advance(120);
        check.same("no more", 4, oast.vaneSteps());
        oast.setWind(0, 1);
        oast.advance(9);
        check.same("a strength of 1", 4, oast.vaneSteps());
        oast.setWind(2, 9);
        oast.advance(9);
        check.same("the other way round", 6, oast.vaneSteps());
        oast.undo();
        check.same("undone", 4, oast.vaneSteps());

        check.sentence("Returns by how much the damper has decreased the heat.");
        HopOast damped = Oasts.of("oast 90 0 0 0 0;floor 60;");
        check.same("the setup does not count", 0, damped.dampedHeat());
        damped.setHeat(45);
        check.same("at the limit", 0, damped.dampedHeat());
        damped.setHeat(46);
        check.same("1", 1, damped.dampedHeat());
        damped.setHeat(90);
        check.same("45 more", 46, damped.dampedHeat());
        damped.setHeat(0);
        damped.advance(20);
        check.same("setHeat and step 1 do not count", 46, damped.dampedHeat());
        damped.undo();
        damped.undo();
        damped.undo();
        check.same("undone", 1, damped.dampedHeat());
    }

    private void contradictions() {
        check.sentence("Counts contradictions. The result is always 0.");
        check.same("a new object", 0, new HopOast().contradictions());
        check.same("the coldest house", 0, Oasts.of("oast 0 4 0 9 0;floor 40;floor 40;floor 40;floor 40;"
                + "load 0 99 800;load 1 99 800;load 2 99 800;load 3 99 800;").contradictions());
        check.same("the hottest house", 0, Oasts.of("oast 90 0 0 0 0;floor 40;floor 41;floor 42;floor 43;")
                .contradictions());
        HopOast burnt = twentySacks(75, 0);
        check.same("20 sacks", 0, burnt.contradictions());
        burnt.advance(5);
        check.same("20 burnt sacks", 0, burnt.contradictions());
        HopOast sold = twentySacks(0, 0);
        Oasts.run(sold, "sell 0;sell 19;quench 7;load 5 5;");
        check.same("sold, quenched and put", 0, sold.contradictions());
        sold.undo();
        check.same("undone", 0, sold.contradictions());
        check.same("the last minute", 0, lastMinute().contradictions());
    }

    private void forecasts() {
        check.sentence("Forecasts change nothing. They tell what happens if only minutes pass, "
                + "and go beyond minute 9999.");
        HopOast late = lastMinute();
        Oasts.run(late, "fire 75;load 5 0;lower 0;load 5 130;");
        String before = Oasts.see(late) + late.undoCount();
        check.same("0 minutes", 90, late.temperatureAfter(0, 0));
        check.same("minute 10000", 89, late.temperatureAfter(0, 1));
        check.same("minute 10299", 90 - 30, late.temperatureAfter(0, 300));
        check.same("burnt in minute 10004", 5, late.minutesUntilBurnt(0));
        check.same("dry in minute 10004", 5, late.minutesUntilDry(0));
        check.same("nothing has changed", before, Oasts.see(late) + late.undoCount());
        check.illegalState("minutes do not pass", () -> late.advance(1));

        check.sentence("0 to 300");
        String setup = "oast 75 1 4 6 0;floor 70;floor 62;floor 90;load 0 20 250;load 1 30 420;";
        HopOast asked = Oasts.of(setup);
        HopOast passed = Oasts.of(setup);
        for (int minutes = 0; minutes <= 300; minutes += 100) {
            for (int floor = 0; floor < 3; floor++) {
                check.same("floor " + floor + " in " + minutes, passed.temperatureOf(floor),
                        asked.temperatureAfter(floor, minutes));
            }
            passed.advance(100);
        }
        check.illegalArgument("301", () -> asked.temperatureAfter(0, 301));
        check.illegalArgument("-1", () -> asked.temperatureAfter(0, -1));
        HopOast full = twentySacks(75, 59);
        before = Oasts.see(full);
        check.same("the last of 20 sacks", 5, full.minutesUntilBurnt(19));
        check.same("a forecast burns none", before, Oasts.see(full));
    }

    private void minutesUntilDry() {
        check.sentence("Returns the least number of minutes, 0 to 300; NONE if it will not be dry within 300 minutes.");
        check.same("0", 0, still(10, 0).minutesUntilDry(0));
        check.same("100", 0, still(0, 100).minutesUntilDry(0));
        check.same("101", 1, still(20, 101).minutesUntilDry(0));
        check.same("102", 1, still(20, 102).minutesUntilDry(0));
        check.same("103", 2, still(20, 103).minutesUntilDry(0));
        check.same("too cold for 101", NONE, still(9, 101).minutesUntilDry(0));
        // 4 in each of 9 minutes, 3 in each of 100, 2 in each of 100 and 1 in each of 91 of the 300 minutes.
        int most = 9 * 4 + 100 * 3 + 100 * 2 + 91;
        check.same("299 minutes", 299, still(40, 100 + most - 1).minutesUntilDry(0));
        check.same("300 minutes", 300, still(40, 100 + most).minutesUntilDry(0));
        check.same("301 minutes", NONE, still(40, 100 + most + 1).minutesUntilDry(0));
    }

    private void minutesUntilBurnt() {
        check.sentence("Returns the least number of minutes, 0 to 300; NONE if it will not be burnt within 300 minutes.");
        HopOast oast = packed(90, 0);
        check.same("90 degrees", 5, oast.minutesUntilBurnt(0));
        oast.advance(4);
        check.same("98 degrees", 1, oast.minutesUntilBurnt(0));
        oast.advance(1);
        check.same("burnt already", 0, oast.minutesUntilBurnt(0));
        check.same("50 degrees", 25, packed(50, 59).minutesUntilBurnt(0));
        check.same("49 degrees", NONE, packed(49, 59).minutesUntilBurnt(0));
        check.same("moisture 60", NONE, packed(90, 60).minutesUntilBurnt(0));
        HopOast sold = packed(49, 0);
        sold.sell(0);
        check.same("sold", NONE, sold.minutesUntilBurnt(0));
        // 49 - 8 + 10 + 2 degrees in minute 9, in which the neighbour burns, then 2 more in each minute.
        HopOast two = Oasts.of("oast 67 0 0 0 0;floor 90;");
        Oasts.run(two, "load 1 0;lower 0;fire 34;load 1 0;lower 0;");
        check.same("82 degrees", 9, two.minutesUntilBurnt(0));
        check.same("beside it", 9 + 24, two.minutesUntilBurnt(1));
    }

    private void lastCall() {
        check.sentence("An object is used for at most 512 calls after it has been made; what later calls answer is free.");
        HopOast oast = new HopOast();
        for (int call = 1; call < 511; call++) {
            oast.setGear(call % 5);
        }
        check.same("the 511th call", 8, oast.undoCount());
        check.same("the 512th call", 0, oast.setGear(1));
    }
}
