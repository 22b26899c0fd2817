/** Promises 1 and 58 to 64: a new object, output, undo and slots. */
final class OutputPromises {
    private final Check check;

    OutputPromises(Check check) {
        this.check = check;
    }

    void run() {
        newObject();
        writeFloors();
        writeSacks();
        outputByte();
        undo();
        undoLeaves();
        slots();
    }

    private void newObject() {
        check.promise(1);
        HopOast oast = new HopOast();
        check.same("floors", "65:150 60:420 52.", Oasts.floors(oast));
        check.same("masses", 20, oast.massOn(0));
        check.same("masses", 30, oast.massOn(1));
        check.same("heat", 52, oast.heat());
        check.same("gear", 1, oast.gear());
        check.same("wind", 2, oast.windDirection());
        check.same("strength", 6, oast.windStrength());
        check.same("vane", 7, oast.vaneDirection());
        check.same("limits", 70, oast.limitOf(0));
        check.same("limits", 60, oast.limitOf(1));
        check.same("limits", 55, oast.limitOf(2));
        check.same("minute", 0, oast.minute());
        check.same("loadedMass", 50, oast.loadedMass());
        check.same("dampedHeat", 0, oast.dampedHeat());
        check.same("undoCount", 0, oast.undoCount());
        check.same("no error", 0, oast.errorCode());
        HopOast other = new HopOast();
        check.same("an empty output", HopOast.NONE, other.outputByte(0));
        check.same("an empty text", 0, other.append(0, 0, 0, 0, 0));
        check.illegalState("slot 0", () -> other.restore(0));
        check.illegalState("slot 1", () -> other.restore(1));
        oast.advance(5);
        check.same("objects do not share a house", 0, other.minute());
    }

    private void writeFloors() {
        check.promise(58);
        HopOast oast = Oasts.of("oast 90 0 0 0 0;floor 90;floor 90;floor 90;floor 90;load 0 1 0;load 2 1 9;load 3 1 800;");
        check.same("length", 20, oast.writeFloors());
        check.same("text", "90:0 86. 82:9 78:800", Oasts.output(oast));
        check.same("numbers", "15:10 15:99 15:100 15:199", Oasts.floors(Oasts.of("oast 0 0 0 0 0;"
                + "floor 90;floor 90;floor 90;floor 90;load 0 1 10;load 1 1 99;load 2 1 100;load 3 1 199;")));
    }

    private void writeSacks() {
        check.promise(59);
        HopOast oast = Oasts.of("oast 75 0 0 0 0;floor 90;");
        oast.writeFloors();
        check.same("no sack", 0, oast.writeSacks());
        check.same("the output is replaced", "", Oasts.output(oast));
        Oasts.run(oast, "load 1 60;lower 0;load 10 0;lower 0;load 99 100;lower 0;load 9 100;lower 0;sell 2;");
        check.same("length", 11, oast.writeSacks());
        check.same("text", "1 10* 99$ 9", Oasts.output(oast));
        oast.advance(5);
        check.same("the output stays", "1 10* 99$ 9", Oasts.output(oast));
        check.same("burnt", "1 10# 99$ 9", Oasts.sacks(oast));
        oast = Oasts.of("oast 0 0 0 0 0;floor 90;");
        Oasts.run(oast, "repeat 20(load 88 0;lower 0;);");
        oast.setHeat(0);
        check.same("20 sacks", 59, oast.writeSacks());
        check.same("the last byte", '8', oast.outputByte(58));
        check.same("no byte more", HopOast.NONE, oast.outputByte(59));
        HopOast hot = Oasts.of("oast 75 0 0 0 0;floor 90;");
        Oasts.run(hot, "repeat 20(load 88 0;lower 0;);");
        check.same("20 marks", 79, hot.writeSacks());
        check.same("the last mark", '*', hot.outputByte(78));
    }

    private void outputByte() {
        check.promise(60);
        HopOast oast = new HopOast();
        oast.writeFloors();
        check.same("0", '6', oast.outputByte(0));
        check.same("1", '5', oast.outputByte(1));
        check.same("2", 58, oast.outputByte(2));
        check.same("6", 32, oast.outputByte(6));
        check.same("16", 46, oast.outputByte(16));
        check.same("17", HopOast.NONE, oast.outputByte(17));
        check.same("-1", HopOast.NONE, oast.outputByte(-1));
        check.same("far", HopOast.NONE, oast.outputByte(Integer.MAX_VALUE));
        check.same("far below", HopOast.NONE, oast.outputByte(Integer.MIN_VALUE));
        oast.writeSacks();
        check.same("the former output is gone", HopOast.NONE, oast.outputByte(0));
    }

    private void undo() {
        HopOast oast = Oasts.of("oast 10 0 0 0 0;floor 90;");
        check.promise(62);
        check.illegalState("no change", () -> oast.undo());
        for (int heat = 1; heat <= 20; heat++) {
            check.promise(61);
            check.same("changes", Math.min(8, heat - 1), oast.undoCount());
            oast.setHeat(heat);
        }
        check.same("at most 8", 8, oast.undoCount());
        for (int left = 7; left >= 0; left--) {
            check.promise(62);
            check.same("left", left, oast.undo());
            check.same("heat", 12 + left, oast.heat());
            check.promise(61);
            check.same("undoCount", left, oast.undoCount());
        }
        check.promise(62);
        check.illegalState("the ninth", () -> oast.undo());
        oast.setHeat(30);
        oast.setHeat(31);
        oast.undo();
        oast.setHeat(32);
        check.same("one left", 1, oast.undo());
        check.same("heat", 30, oast.heat());
        check.same("none left", 0, oast.undo());
        check.same("heat", 12, oast.heat());
        check.promise(61);
        check.same("none", 0, oast.undoCount());
        check.promise(62);
        HopOast full = new HopOast();
        String before = Oasts.see(full);
        Oasts.run(full, "fire 90;gear 0;wind 6 9;wait 9;rotate;load 5 50;rotate;wait 3;rotate;quench 0;sell 0;wait 40;");
        check.no("the script does something", before.equals(Oasts.see(full)));
        full.undo();
        check.same("everything is restored", before, Oasts.see(full));
        HopOast scorched = scorchedHouse();
        before = Oasts.see(scorched);
        scorched.advance(3);
        check.no("minutes scorch", before.equals(Oasts.see(scorched)));
        scorched.undo();
        check.same("scorch points are restored", before, Oasts.see(scorched));
    }

    /** A load and a sack with scorch points, a sack that smoulders. */
    private static HopOast scorchedHouse() {
        HopOast oast = Oasts.of("oast 75 0 0 0 0;floor 90;floor 90;load 0 5 30;load 1 6 10;");
        oast.advance(2);
        oast.lower(0);
        oast.lower(1);
        return oast;
    }

    private void undoLeaves() {
        check.promise(62);
        HopOast oast = new HopOast();
        oast.advance(4);
        oast.save(0);
        oast.writeFloors();
        String output = Oasts.output(oast);
        Oasts.run(oast, "gear 1;gear 9");
        Oasts.write(oast, "gear 3;");
        oast.undo();
        check.same("minute", 0, oast.minute());
        check.same("the output", output, Oasts.output(oast));
        check.same("the error code", 2, oast.errorCode());
        check.same("the error position", 12, oast.errorPosition());
        check.same("the text", 1, oast.runScript());
        check.same("the text was run", 3, oast.gear());
        check.same("the slot", 4, oast.restore(0));
    }

    /** The slots keep two different sacks with the same number. */
    private void otherSack() {
        check.promise(64);
        HopOast oast = Oasts.of("oast 75 0 0 0 0;floor 90;");
        oast.save(0);
        Oasts.run(oast, "load 5 120;wait 4;lower 0;quench 0;");
        String before = Oasts.see(oast);
        oast.save(1);
        oast.restore(0);
        Oasts.run(oast, "load 6 90;lower 0;sell 0;");
        check.same("the other sack", 6, oast.sackMass(0));
        oast.restore(1);
        check.same("the first sack", before, Oasts.see(oast));
        check.same("its mass", 5, oast.sackMass(0));
        check.same("4 scorch points and 56 for the moisture", 100 - 4 - (120 - 28 + 100 - 80) / 2, oast.qualityOf(0));
    }

    private void slots() {
        HopOast oast = new HopOast();
        check.promise(63);
        check.outside("slot 2", () -> oast.save(2));
        check.outside("slot -1", () -> oast.save(-1));
        check.promise(64);
        check.outside("slot 2", () -> oast.restore(2));
        check.outside("slot -1", () -> oast.restore(-1));
        check.illegalState("slot 1 is empty", () -> oast.restore(1));
        oast.advance(3);
        oast.lower(0);
        check.promise(63);
        check.same("minute", 3, oast.save(1));
        check.same("save is no change", 2, oast.undoCount());
        String saved = Oasts.see(oast);
        check.promise(64);
        check.illegalState("slot 0 is empty", () -> oast.restore(0));
        Oasts.run(oast, "sell 0;fire 90;gear 4;wind 0 0;rotate;wait 120;load 5 5;");
        check.no("the script does something", saved.equals(Oasts.see(oast)));
        check.same("minute", 3, oast.restore(1));
        check.same("everything is restored", saved, Oasts.see(oast));
        check.same("no change can be undone", 0, oast.undoCount());
        check.illegalState("no change can be undone", () -> oast.undo());
        oast.advance(1);
        check.same("one change", 1, oast.undoCount());
        check.same("the slot keeps it", 3, oast.restore(1));
        check.same("once more", saved, Oasts.see(oast));
        oast.advance(7);
        check.promise(63);
        check.same("minute", 10, oast.save(0));
        check.same("minute", 10, oast.save(1));
        oast.advance(1);
        check.same("minute", 11, oast.save(1));
        check.promise(64);
        check.same("slot 0", 10, oast.restore(0));
        check.same("slot 1 was replaced", 11, oast.restore(1));
        HopOast scorched = scorchedHouse();
        String before = Oasts.see(scorched);
        scorched.save(0);
        Oasts.run(scorched, "quench 0;sell 0;lower 0;wait 9;");
        Oasts.load(new HopOast(), "oast 1 1 1 1 1;floor 70;");
        scorched.restore(0);
        check.same("scorch points are restored", before, Oasts.see(scorched));
        Oasts.run(scorched, "quench 0;sell 0;lower 0;wait 9;");
        otherSack();
        check.promise(64);
        check.illegalState("one script is one change", () -> {
            scorched.undo();
            scorched.undo();
        });
        oast.setHeat(1);
        check.illegalState("slot 0 is kept by an exception", () -> new HopOast().restore(0));
        check.outside("a wrong slot", () -> oast.restore(2));
        check.same("changes nothing", 1, oast.undoCount());
        Oasts.load(oast, "oast 1 1 1 1 1;floor 70;");
        check.illegalState("a new house empties the slots", () -> oast.restore(0));
    }
}
