/** Makes houses for the tests, and reads and writes their texts. */
final class Oasts {
    private Oasts() {
    }

    /** Puts a text into the buffer behind what stands there; bytes that are left over are 0 and so left out. */
    static void write(HopOast oast, String text) {
        for (int at = 0; at < text.length(); at += 20) {
            oast.append(four(text, at), four(text, at + 4), four(text, at + 8), four(text, at + 12),
                    four(text, at + 16));
        }
    }

    private static int four(String text, int at) {
        int value = 0;
        for (int i = at; i < at + 4; i++) {
            value = value << 8 | (i < text.length() ? text.charAt(i) : 0);
        }
        return value;
    }

    static int load(HopOast oast, String setup) {
        write(oast, setup);
        return oast.load();
    }

    static int run(HopOast oast, String script) {
        write(oast, script);
        return oast.runScript();
    }

    static HopOast of(String setup) {
        HopOast oast = new HopOast();
        if (load(oast, setup) != 0) {
            throw new AssertionError("wrong setup " + setup + " at " + oast.errorPosition());
        }
        return oast;
    }

    static String output(HopOast oast) {
        StringBuilder text = new StringBuilder();
        int value = oast.outputByte(0);
        while (value != HopOast.NONE) {
            text.append((char) value);
            value = oast.outputByte(text.length());
        }
        return text.toString();
    }

    static String floors(HopOast oast) {
        oast.writeFloors();
        return output(oast);
    }

    static String sacks(HopOast oast) {
        oast.writeSacks();
        return output(oast);
    }

    /** All that undo restores, as the calls of the face tell it. */
    static String see(HopOast oast) {
        StringBuilder seen = new StringBuilder(glance(oast));
        for (int floor = 0; floor < oast.floorCount(); floor++) {
            seen.append(oast.limitOf(floor)).append('/');
            seen.append(oast.temperatureOf(floor)).append('/').append(oast.massOn(floor)).append('/');
            seen.append(oast.hasLoad(floor) ? oast.moistureOn(floor) + "/" + oast.scorchOn(floor) : ".").append(' ');
        }
        for (int sack = 0; sack < oast.sackCount(); sack++) {
            seen.append(oast.sackState(sack)).append('/').append(oast.sackMass(sack)).append('/');
            seen.append(oast.sackMoisture(sack)).append('/').append(oast.qualityOf(sack)).append('/');
            seen.append(oast.sackTemperature(sack)).append(' ');
        }
        return seen.toString();
    }

    /** What a few calls tell of all that undo restores: an object has 512 calls. */
    static String glance(HopOast oast) {
        StringBuilder seen = new StringBuilder();
        int[] numbers = {oast.minute(), oast.heat(), oast.gear(), oast.windDirection(), oast.windStrength(),
                oast.vaneDirection(), oast.floorCount(), oast.sackCount(), oast.loadedMass(), oast.soldMass(),
                oast.burntMass(), oast.income(), oast.dampedHeat(), oast.vaneSteps(), oast.contradictions()};
        for (int number : numbers) {
            seen.append(number).append(' ');
        }
        return seen.append(oast.meanMoisture()).append(' ').toString();
    }
}
