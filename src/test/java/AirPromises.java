/** Promises 8 to 15: fire, wind and draught. */
final class AirPromises {
    private final Check check;

    AirPromises(Check check) {
        this.check = check;
    }

    void run() {
        numbers();
        heatFalls();
        deviation();
        draught();
        vaneTurns();
    }

    private void numbers() {
        HopOast oast = Oasts.of("oast 17 3 5 1 2;floor 90;");
        check.promise(8);
        check.same("minute", 0, oast.minute());
        oast.advance(7);
        check.same("minute 7", 7, oast.minute());
        oast.advance(120);
        check.same("minute 127", 127, oast.minute());
        check.promise(10);
        check.same("gear", 3, oast.gear());
        oast.setGear(0);
        check.same("gear 0", 0, oast.gear());
        check.promise(11);
        check.same("windDirection", 5, oast.windDirection());
        check.promise(12);
        check.same("windStrength", 1, oast.windStrength());
        oast.setWind(7, 9);
        check.same("windStrength 9", 9, oast.windStrength());
        check.promise(11);
        check.same("windDirection 7", 7, oast.windDirection());
        check.promise(13);
        check.same("vaneDirection", 2, oast.vaneDirection());
        oast.undo();
        oast.undo();
        check.promise(10);
        check.same("gear undone", 3, oast.gear());
        check.promise(11);
        check.same("windDirection undone", 5, oast.windDirection());
        check.promise(12);
        check.same("windStrength undone", 1, oast.windStrength());
    }

    private void heatFalls() {
        check.promise(9);
        HopOast oast = Oasts.of("oast 2 0 0 0 0;floor 90;");
        check.same("heat", 2, oast.heat());
        oast.advance(9);
        check.same("minute 9", 2, oast.heat());
        oast.advance(1);
        check.same("minute 10", 1, oast.heat());
        oast.advance(9);
        check.same("minute 19", 1, oast.heat());
        oast.advance(1);
        check.same("minute 20", 0, oast.heat());
        oast.advance(20);
        check.same("minute 40", 0, oast.heat());
        check.same("the fire that burns down is not damped", 0, oast.dampedHeat());
        check.same("90", 90, Oasts.of("oast 90 4 0 9 0;floor 90;").heat());
    }

    private void deviation() {
        check.promise(14);
        int[] due = {0, 1, 2, 3, 4, 3, 2, 1};
        for (int vane = 0; vane < 8; vane++) {
            HopOast oast = Oasts.of("oast 0 0 0 9 " + vane + ";floor 90;");
            for (int wind = 0; wind < 8; wind++) {
                oast.setWind(wind, 9);
                check.same("from " + vane + " to " + wind, due[(wind - vane + 8) % 8], oast.deviation());
            }
        }
    }

    private void draught() {
        check.promise(15);
        HopOast oast = Oasts.of("oast 0 0 0 9 3;floor 90;");
        int[] still = {0, 0, 4, 9, 4, 0, 0, 0};
        int[] fast = {6, 6, 6 + 4, 6 + 9, 6 + 4, 6, 6, 6 - 4};
        for (int wind = 0; wind < 8; wind++) {
            oast.setWind(wind, 9);
            oast.setGear(0);
            check.same("wind " + wind, still[wind], oast.draught());
            oast.setGear(3);
            check.same("gear 3, wind " + wind, fast[wind], oast.draught());
        }
        oast.setWind(7, 8);
        oast.setGear(2);
        check.same("4 - 4", 0, oast.draught());
        oast.setGear(1);
        check.same("2 - 4", 0, oast.draught());
        oast.setWind(7, 3);
        check.same("2 - 1", 1, oast.draught());
        oast.setWind(3, 0);
        check.same("no wind", 2, oast.draught());
    }

    private void vaneTurns() {
        check.promise(13);
        vane(0, 1, 9, 1, 1, 1);
        vane(0, 3, 2, 1, 2, 3);
        vane(0, 4, 2, 1, 2, 3);
        vane(0, 5, 2, 7, 6, 5);
        vane(0, 7, 2, 7, 7, 7);
        vane(6, 2, 5, 7, 0, 1);
        vane(7, 2, 5, 0, 1, 2);
        vane(1, 6, 5, 0, 7, 6);
        vane(2, 6, 5, 3, 4, 5);
        vane(2, 2, 9, 2, 2, 2);
        vane(2, 4, 1, 2, 2, 2);
        vane(2, 4, 0, 2, 2, 2);
    }

    private void vane(int vane, int wind, int strength, int... due) {
        HopOast oast = Oasts.of("oast 0 0 " + wind + " " + strength + " " + vane + ";floor 90;");
        for (int minute = 1; minute <= due.length; minute++) {
            oast.advance(1);
            check.same("from " + vane + " to " + wind + " in minute " + minute, due[minute - 1],
                    oast.vaneDirection());
        }
    }
}
