/** Promises 2 to 7: the text buffer, setups and scripts. */
final class TextPromises {
    private static final String HEAD = "oast 60 1 2 6 7;";
    private static final String HOUSE = HEAD + "floor 70;floor 60;";

    private final Check check;

    TextPromises(Check check) {
        this.check = check;
    }

    void run() {
        append();
        truncate();
        loadBegins();
        loadKeepsTheHouseOnAnError();
        setupErrors();
        scriptRuns();
        scriptStops();
        scriptIsOneChange();
        scriptErrors();
        errorCodeAndPosition();
    }

    private void append() {
        check.promise(2);
        HopOast oast = new HopOast();
        check.same("the empty buffer", 0, oast.append(0, 0, 0, 0, 0));
        check.same("bytes that are 0", 3, oast.append(0x00610062, 0, 0, 0, 0x63000000));
        check.same("20 bytes", 23, oast.append(0x20202020, -1, 0x61616161, 0x80808080, 0x7f7f7f7f));
        oast.truncate(0);
        Oasts.write(oast, "rotate;");
        check.same("the most significant byte first", 1, oast.runScript());
        check.same("the order of the parameters", 1, Oasts.run(oast, "wind 3 4; "));
        check.same("wind of the script", 3, oast.windDirection());
        check.same("a byte of the second parameter", 9, errorAt(oast, "rotate;  \u00e9    "));
        fillTo(oast, 796);
        check.same("796 bytes", 800, oast.append(0, 0, 0x20202020, 0, 0));
        check.illegalState("801 bytes", () -> oast.append(0, 0, 0, 0, 1));
        check.same("0 bytes more than 800", 800, oast.append(0, 0, 0, 0, 0));
        oast.truncate(799);
        check.illegalState("801 bytes by two", () -> oast.append(0x61000000, 0, 0, 0, 0x61));
        check.same("nothing was appended", 799, oast.append(0, 0, 0, 0, 0));
        check.same("the 800th byte", 800, oast.append(0, 0, 0, 0x2000, 0));
        check.same("800 spaces are a script", 0, oast.runScript());
        int four = 0x20202020;
        fillTo(oast, 781);
        check.illegalState("20 bytes behind 781", () -> oast.append(four, four, four, four, four));
        oast.truncate(780);
        check.same("20 bytes behind 780", 800, oast.append(four, four, four, four, four));
        for (int place = 0; place < 5; place++) {
            int[] f = new int[5];
            f[place] = 1;
            check.illegalState("parameter " + place, () -> oast.append(f[0], f[1], f[2], f[3], f[4]));
        }
    }

    private static int errorAt(HopOast oast, String script) {
        Oasts.run(oast, script);
        return oast.errorPosition();
    }

    private static void fillTo(HopOast oast, int length) {
        StringBuilder spaces = new StringBuilder();
        for (int i = 0; i < length; i++) {
            spaces.append(' ');
        }
        Oasts.write(oast, spaces.toString());
    }

    private void truncate() {
        check.promise(3);
        HopOast oast = new HopOast();
        check.same("0 of 0", 0, oast.truncate(0));
        check.illegalArgument("1 of 0", () -> oast.truncate(1));
        Oasts.write(oast, "rotate;x");
        check.illegalArgument("-1", () -> oast.truncate(-1));
        check.illegalArgument("9 of 8", () -> oast.truncate(9));
        check.illegalArgument("very long", () -> oast.truncate(Integer.MAX_VALUE));
        check.same("8 of 8", 8, oast.truncate(8));
        check.same("7 of 8", 7, oast.truncate(7));
        check.illegalArgument("8 of 7", () -> oast.truncate(8));
        check.same("the first bytes stay", 1, oast.runScript());
        Oasts.write(oast, "rotate;xx");
        oast.truncate(7);
        Oasts.write(oast, "gear 2;");
        check.same("what is appended stands behind the rest", 2, oast.runScript());
    }

    private void loadBegins() {
        check.promise(4);
        HopOast oast = new HopOast();
        check.same("the buffer was empty", 1, oast.load());
        oast.advance(3);
        oast.lower(0);
        oast.sell(0);
        oast.save(0);
        oast.save(1);
        oast.writeFloors();
        String output = Oasts.output(oast);
        check.same("a setup", 0, Oasts.load(oast,
                " oast 080 3 5 4 5;floor 50 ;\nfloor 40;floor 90;floor 66; load 2 10 300;load 0 99 0;load 3 1 800;\n"));
        check.same("the buffer is empty", 0, oast.append(0, 0, 0, 0, 0));
        check.same("minute", 0, oast.minute());
        check.same("gear", 3, oast.gear());
        check.same("wind", 5, oast.windDirection());
        check.same("strength", 4, oast.windStrength());
        check.same("vane", 5, oast.vaneDirection());
        check.same("floors", 4, oast.floorCount());
        check.same("limit 0", 50, oast.limitOf(0));
        check.same("limit 3", 66, oast.limitOf(3));
        // draught 6 + 4; floor 0 may have 50 = 15 + heat - 10, floor 1 40 = 15 + heat - 4 - 10
        check.same("the damper has acted", 39, oast.heat());
        check.same("dampedHeat", 0, oast.dampedHeat());
        check.same("loads", "44:0 40. 36:300 29:800", Oasts.floors(oast));
        check.same("mass", 99, oast.massOn(0));
        check.same("loadedMass", 110, oast.loadedMass());
        check.same("scorch", 0, oast.scorchOn(2));
        check.same("sacks", 0, oast.sackCount());
        check.same("soldMass", 0, oast.soldMass());
        check.same("burntMass", 0, oast.burntMass());
        check.same("income", 0, oast.income());
        check.same("vaneSteps", 0, oast.vaneSteps());
        check.same("undoCount", 0, oast.undoCount());
        check.illegalState("slot 0", () -> oast.restore(0));
        check.illegalState("slot 1", () -> oast.restore(1));
        check.same("contradictions", 0, oast.contradictions());
        check.same("the output before", "59. 55:347 48.", output);
        check.same("one floor and no blanks", 0, Oasts.load(oast, "oast0 0 0 0 0;floor40;"));
        check.same("no loads", 0, oast.loadedMass());
        check.same("one floor", "15.", Oasts.floors(oast));
        check.same("the next load does not see the former loads", 0, Oasts.load(oast, HOUSE));
        check.no("load 0", oast.hasLoad(0));
        HopOast burning = Oasts.of("oast 90 0 0 0 0;floor 90;load 0 5 0;");
        burning.lower(0);
        burning.advance(20);
        check.same("burnt before", 5, burning.burntMass());
        Oasts.load(burning, HOUSE);
        check.same("burnt after", 0, burning.burntMass());
    }

    private void loadKeepsTheHouseOnAnError() {
        check.promise(4);
        HopOast oast = new HopOast();
        oast.advance(2);
        oast.save(1);
        check.same("an error", 2, Oasts.load(oast, "oast 10 1 2 6 7; floor 70; load 0 20 150; load 1 1 1;"));
        check.same("the buffer is empty all the same", 0, oast.append(0, 0, 0, 0, 0));
        check.same("minute", 2, oast.minute());
        check.same("heat", 52, oast.heat());
        check.same("loads", 2, oast.putLoad(1, 1) - 1);
        check.same("undoCount", 2, oast.undoCount());
        check.same("the slot is kept", 2, oast.restore(1));
    }

    private void setup(String what, int code, int position, String text) {
        HopOast oast = new HopOast();
        check.promise(4);
        check.same(what + ": code", code, Oasts.load(oast, text));
        check.promise(6);
        check.same(what + ": errorCode", code, oast.errorCode());
        check.promise(7);
        check.same(what + ": errorPosition", position, oast.errorPosition());
    }

    private void setupErrors() {
        setup("nothing", 1, 0, "");
        setup("blanks", 1, 3, " \n ");
        setup("another word", 1, 1, " oasts 1 1 1 1 1;floor 70;");
        setup("a capital letter", 1, 0, "Oast 1 1 1 1 1;floor 70;");
        setup("a tabulator", 1, 4, "oast\t1 1 1 1 1;floor 70;");
        setup("a carriage return", 1, 16, HEAD + "\r\nfloor 70;");
        setup("a byte over 127", 1, 16, HEAD + "\u00ffloor 70;");
        setup("a sign", 1, 5, "oast -1 1 1 1 1;floor 70;");
        setup("heat 91", 2, 5, "oast 91 1 1 1 1;floor 70;");
        setup("heat 90", 0, -1, "oast 90 4 7 9 7;floor 70;");
        setup("gear 5", 2, 8, "oast 90 5 7 9 7;floor 70;");
        setup("direction 8", 2, 10, "oast 90 4 8 9 7;floor 70;");
        setup("strength 10", 2, 12, "oast 90 4 7 10 7;floor 70;");
        setup("vane 8", 2, 14, "oast 90 4 7 9 8;floor 70;");
        setup("a number more", 1, 16, "oast 90 4 7 9 7 1;floor 70;");
        setup("a huge number", 2, 5, "oast 99999999999999999999999999999999999999 1 1 1 1;floor 70;");
        setup("a number that wraps around", 2, 5, "oast 4294967297 1 1 1 1;floor 70;");
        setup("leading zeros", 0, -1, "oast 00000000000000000000000000000000000001 1 1 1 1;floor 070;");
        setup("no floor", 1, 16, HEAD);
        setup("a load before the first floor", 1, 16, HEAD + "load 0 1 1;");
        setup("limit 39", 2, 22, HEAD + "floor 39;");
        setup("limit 40", 0, -1, HEAD + "floor 40;");
        setup("limit 90", 0, -1, HEAD + "floor 90;");
        setup("limit 91", 2, 22, HEAD + "floor 91;");
        setup("no limit", 1, 21, HEAD + "floor;");
        setup("no semicolon", 1, 25, HEAD + "floor 90 floor 90;");
        setup("the text ends in blanks", 1, 26, HEAD + "floor 90  ");
        setup("four floors", 0, -1, HOUSE + "floor 70;floor 70;");
        setup("five floors", 4, 52, HOUSE + "floor 70;floor 70;floor 70;");
        setup("the fifth floor before its error", 4, 52, HOUSE + "floor 70;floor 70;floor");
        setup("a fifth floor behind a load", 1, 63, HOUSE + "floor 70;floor 70;load 0 1 1;floor 70;");
        setup("another word behind the floors", 1, 34, HOUSE + "lower 0;");
        setup("a floor behind a load", 1, 45, HOUSE + "load 0 1 1;floor 70;");
        setup("load on floor 1 of 2", 0, -1, HOUSE + "load 1 1 1;");
        setup("load on floor 2 of 2", 2, 39, HOUSE + "load 2 1 1;");
        setup("load without a number", 1, 39, HOUSE + "load ;");
        setup("a floor taken", 3, 50, HOUSE + "load 0 1 1;load 0 1 1;");
        setup("a floor taken before the end", 3, 50, HOUSE + "load 1 1 1;load 1");
        setup("all floors taken", 3, 61, HOUSE + "load 1 1 1;load 0 1 1;load 1 1 1;");
        setup("loads in any order", 0, -1, HOUSE + "load 1 1 1;load 0 1 1;");
        setup("mass 0", 2, 41, HOUSE + "load 1 0 1;");
        setup("mass 99", 0, -1, HOUSE + "load 1 99 1;");
        setup("mass 100", 2, 41, HOUSE + "load 1 100 1;");
        setup("moisture 0", 0, -1, HOUSE + "load 1 1 0;");
        setup("moisture 800", 0, -1, HOUSE + "load 1 1 800;");
        setup("moisture 801", 2, 43, HOUSE + "load 1 1 801;");
        setup("a bracket", 1, 34, HOUSE + "(");
        setup("two semicolons", 1, 34, HOUSE + ";");
        setup("a letter in the wrong place", 1, 16, HEAD + "xloor 70;");
        setup("a longer word", 1, 0, "oastz 1 1 1 1 1;floor 70;");
        setup("the least of all", 0, -1, "oast 0 0 0 0 0;floor 40;load 0 1 0;");
        setup("five loads on four floors", 3, 101, HOUSE + "floor 70;floor 70;load 3 1 1;load 0 1 1;"
                + "load 2 1 1;load 1 1 1;load 3 1 1;");
        setup("the first error counts", 2, 22, HEAD + "floor 39;floor 91;x");
    }

    private void scriptRuns() {
        check.promise(5);
        HopOast oast = new HopOast();
        check.same("an empty script", 0, oast.runScript());
        check.same("every command", 11, Oasts.run(oast, "gear 2;wind 7 3;fire 40;load 12 80;wait 03;\nlower 0;"
                + "lower 1 ; lower 2;rotate;quench 0;sell 0;"));
        check.same("the buffer is empty", 0, oast.append(0, 0, 0, 0, 0));
        check.same("gear", 2, oast.gear());
        check.same("wind", 7, oast.windDirection());
        check.same("strength", 3, oast.windStrength());
        check.same("heat", 40, oast.heat());
        check.same("minute", 3, oast.minute());
        check.same("loadedMass", 62, oast.loadedMass());
        check.same("floors", "48:353 41:31 37.", Oasts.floors(oast));
        check.same("sacks", "20$", Oasts.sacks(oast));
        check.same("quenched", 172, oast.sackMoisture(0));
        check.same("sold", 108, oast.income());
        check.same("no blanks", 2, Oasts.run(oast, "fire50;gear0;"));
        check.same("the damper acts after each command", 1, Oasts.run(oast, "repeat 1(fire 90;);"));
        check.same("dampedHeat", 90 - oast.heat(), oast.dampedHeat());
    }

    private void scriptStops() {
        check.promise(5);
        HopOast oast = new HopOast();
        check.same("a command that would throw", 2, Oasts.run(oast, "fire 30;gear 0;lower 2;gear 3;"));
        check.same("commands before it stay in effect", 30, oast.heat());
        check.same("commands behind it are not executed", 0, oast.gear());
        check.same("no such floor", 0, Oasts.run(oast, "lower 3;rotate;"));
        check.same("no such sack to sell", 1, Oasts.run(oast, "rotate;sell 0;rotate;"));
        check.same("no such sack to quench", 0, Oasts.run(oast, "quench 19;"));
        check.same("the highest floor is taken", 1, Oasts.run(oast, "load 5 5;load 5 5;"));
        check.same("not dry", 0, Oasts.run(oast, "lower 0;wait 1;"));
        check.same("below taken", 0, Oasts.run(oast, "lower 1;wait 1;"));
        check.same("a stop inside of brackets", 2, Oasts.run(oast, "repeat 2(repeat 2(wait 1;fire 9;lower 1;););"));
        check.same("minute", 1, oast.minute());

        HopOast long1 = new HopOast();
        check.same("40 commands", 40, Oasts.run(long1, "repeat 20(repeat 3(wait 1;););gear 4;"));
        check.same("40 minutes", 40, long1.minute());
        check.same("no 41st command", 1, long1.gear());
        check.same("repeat is not counted", 40, Oasts.run(long1, "repeat 20(wait 1;);repeat 20(wait 1;);wait 1;"));
        check.same("80 minutes", 80, long1.minute());
        check.same("exactly 40 commands", 40, Oasts.run(long1, "repeat 13(wait 1;wait 1;wait 1;);gear 3;"));
        check.same("the 40th command", 3, long1.gear());
        check.same("the order of a repeat", 7, Oasts.run(long1, "repeat 3(wait 1;gear 1;);gear 2;"));
        check.same("the last command", 2, long1.gear());
        check.same("both levels", 12, Oasts.run(long1, "repeat 2(wait 1;repeat 2(wait 2;wait 3;);wait 4;);"));
        check.same("minutes of both levels", 119 + 3 + 30, long1.minute());
        check.same("empty brackets", 1, Oasts.run(long1, "repeat 20(repeat 20();repeat 20(););wait 1;"));

        HopOast late = new HopOast();
        check.same("4800 minutes", 40, Oasts.run(late, "repeat 20(wait 120;wait 120;);"));
        check.same("9600 minutes", 40, Oasts.run(late, "repeat 20(wait 120;wait 120;);"));
        check.same("to the last minute", 4, Oasts.run(late, "wait 120;wait 120;wait 120;wait 39;wait 1;gear 0;"));
        check.same("the last minute", 9999, late.minute());
        check.same("the gear is not changed", 1, late.gear());
    }

    private void scriptIsOneChange() {
        check.promise(5);
        HopOast oast = new HopOast();
        Oasts.run(oast, "repeat 10(gear 2;fire 20;wait 3;);");
        check.same("one change", 1, oast.undoCount());
        check.same("undone", 0, oast.undo());
        check.same("minute", 0, oast.minute());
        check.same("gear", 1, oast.gear());
        check.same("heat", 52, oast.heat());
        check.same("a script without a command", 0, Oasts.run(oast, ""));
        check.same("is a change", 1, oast.undoCount());
        check.same("a script whose first command would throw", 0, Oasts.run(oast, "lower 0;"));
        check.same("is a change too", 2, oast.undoCount());
        check.same("a script with an error", HopOast.NONE, Oasts.run(oast, "gear 4;gear"));
        check.same("is no change", 2, oast.undoCount());
        check.same("and executes nothing", 1, oast.gear());
        check.same("the buffer is empty", 0, oast.append(0, 0, 0, 0, 0));
    }

    private void script(String what, int code, int position, String text) {
        HopOast oast = new HopOast();
        int answer = Oasts.run(oast, text);
        check.promise(5);
        check.yes(what + ": answer " + answer, code == 0 ? answer >= 0 : answer == HopOast.NONE);
        check.promise(6);
        check.same(what + ": errorCode", code, oast.errorCode());
        check.promise(7);
        check.same(what + ": errorPosition", position, oast.errorPosition());
    }

    private void scriptErrors() {
        script("blanks", 0, -1, " \n ");
        script("an unknown word", 1, 7, "gear 1;gears 1;");
        script("another first letter", 1, 0, "xear 1;");
        script("another last letter", 1, 0, "geaz 1;");
        script("a longer word", 1, 0, "gearz 1;");
        script("a shorter word", 1, 0, "gea 1;");
        script("the least numbers", 0, -1, "load 1 0;lower 0;fire 0;gear 0;wind 0 0;sell 0;quench 0;wait 1;");
        script("a word of a setup", 1, 0, "floor 70;");
        script("a number", 1, 0, "1;");
        script("a lone semicolon", 1, 0, ";");
        script("a lone bracket", 1, 7, "gear 1;)");
        script("a capital letter in a word", 1, 0, "gEAR 1;");
        script("an invalid byte at the end", 1, 7, "rotate;\u0001");
        script("a tabulator", 1, 5, "gear \t1;");
        script("mass 0", 2, 5, "load 0 5;");
        script("mass 99", 0, -1, "load 99 5;");
        script("mass 100", 2, 5, "load 100 5;");
        script("moisture 800", 0, -1, "load 1 800;");
        script("moisture 801", 2, 7, "load 1 801;");
        script("moisture is missing", 1, 6, "load 1;");
        script("a number too many", 1, 9, "load 1 1 1;");
        script("floor 3", 0, -1, "lower 3;");
        script("floor 4", 2, 6, "lower 4;");
        script("rotate with a number", 1, 7, "rotate 1;");
        script("heat 90", 0, -1, "fire 90;");
        script("heat 91", 2, 5, "fire 91;");
        script("gear 4", 0, -1, "gear 4;");
        script("gear 5", 2, 5, "gear 5;");
        script("wind 7 9", 0, -1, "wind 7 9;");
        script("wind 8", 2, 5, "wind 8 10;");
        script("strength 10", 2, 7, "wind 7 10;");
        script("sack 19", 0, -1, "sell 19;");
        script("sack 20 to sell", 2, 5, "sell 20;");
        script("quench 19", 0, -1, "quench 19;");
        script("sack 20 to quench", 2, 7, "quench 20;");
        script("minutes 0", 2, 5, "wait 0;");
        script("minutes 1", 0, -1, "wait 1;");
        script("minutes 120", 0, -1, "wait 120;");
        script("minutes 121", 2, 5, "wait 121;");
        script("minutes 2 to the 32nd and 1", 2, 5, "wait 4294967297;");
        script("leading zeros", 0, -1, "wait 000000000000000000001;");
        script("times 0", 2, 7, "repeat 0();");
        script("times 20", 0, -1, "repeat 20();");
        script("times 21", 2, 7, "repeat 21();");
        script("no bracket", 1, 9, "repeat 2 rotate;");
        script("no closing bracket", 1, 17, "repeat 2(rotate; ");
        script("no semicolon in brackets", 1, 15, "repeat 2(rotate);");
        script("no semicolon behind brackets", 1, 17, "repeat 2(rotate;)rotate;");
        script("the end behind brackets", 1, 17, "repeat 2(rotate;)");
        script("a bracket too many", 1, 18, "repeat 2(rotate;);)");
        script("two brackets", 0, -1, "repeat 1(repeat 1(););repeat 1(repeat 1(););");
        script("three brackets", 4, 26, "repeat 1(repeat 1(repeat 1();););");
        script("the third bracket in a later place", 4, 37, "repeat 1(repeat 1();repeat 1(repeat 2(");
        script("the third repeat has an error before", 2, 25, "repeat 1(repeat 1(repeat 0(");
        script("the third repeat without its bracket", 1, 26, "repeat 1(repeat 1(repeat 1;););");
        script("a bracket elsewhere", 1, 18, "repeat 1(repeat 1((");
        script("the text ends in a word", 1, 4, "wait");
        script("the text ends behind a blank", 1, 5, "wait ");
        script("the text ends behind a number", 1, 6, "wait 1");

        String thirty = "gear 1;".repeat(30);
        script("30 commands", 0, -1, thirty);
        script("31 commands", 4, 210, thirty + "gear 1;");
        script("the 31st command before its error", 4, 210, thirty + "gear 9;");
        script("a wrong word in the 31st place", 1, 210, thirty + "gears 9;");
        script("the 31st command is a repeat", 4, 211, thirty + " repeat");
        script("repeat counts", 4, 12 + 203, "repeat 1 ();" + "gear 1;".repeat(29) + "gear 1;");
        script("30 with repeat", 0, -1, "repeat 1 ();" + "gear 1;".repeat(29));
        script("brackets count", 4, 9 + 203, "repeat 1(" + "gear 1;".repeat(29) + "rotate;);");
        script("30 with brackets", 0, -1, "repeat 1(" + "gear 1;".repeat(29) + ");");
        script("30 repeats", 0, -1, "repeat 1();".repeat(30));
        script("30 repeats in two", 0, -1, "repeat 1(repeat 1(rotate;););".repeat(10));
        script("31 behind 30 repeats", 4, 330, "repeat 1();".repeat(30) + "gear 1;");
        script("a bracket behind 30 repeats", 1, 330, "repeat 1();".repeat(30) + ")");
        script("the 31st in brackets", 4, 29 * 11 + 9, "repeat 1();".repeat(29) + "repeat 1(gear 1;);");
        script("repeated commands count once", 0, -1, "repeat 20(gear 1;gear 2;);");
    }

    private void errorCodeAndPosition() {
        HopOast oast = new HopOast();
        check.promise(6);
        check.same("no such call", 0, oast.errorCode());
        check.promise(7);
        check.same("no such call", HopOast.NONE, oast.errorPosition());
        Oasts.run(oast, "wait 1;wait 0;");
        oast.advance(1);
        oast.undo();
        oast.truncate(0);
        check.promise(6);
        check.same("the latest script", 2, oast.errorCode());
        check.promise(7);
        check.same("the latest script", 12, oast.errorPosition());
        Oasts.load(oast, HOUSE + "load 0 1 1;load 0");
        check.promise(6);
        check.same("the latest setup", 3, oast.errorCode());
        check.promise(7);
        check.same("the latest setup", 50, oast.errorPosition());
        Oasts.run(oast, "lower 0;");
        Oasts.run(oast, "repeat 3(repeat 3(gear");
        check.promise(5);
        check.same("the brackets of the script before are forgotten", 4,
                Oasts.run(oast, "repeat 2(repeat 2(gear 1;););"));
        check.same("the commands of the scripts before are forgotten", 25, Oasts.run(oast, "gear 1;".repeat(25)));
        check.same("once more", 25, Oasts.run(oast, "gear 1;".repeat(25)));
        Oasts.run(oast, "lower 0;");
        check.promise(6);
        check.same("a script that stops has no error", 0, oast.errorCode());
        check.promise(7);
        check.same("a script that stops has no error", HopOast.NONE, oast.errorPosition());
        Oasts.load(oast, "x");
        Oasts.load(oast, HOUSE);
        check.promise(6);
        check.same("a good setup", 0, oast.errorCode());
        check.promise(7);
        check.same("a good setup", HopOast.NONE, oast.errorPosition());
    }
}
