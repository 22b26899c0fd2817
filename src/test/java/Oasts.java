/** Makes houses for the tests, and reads and writes their texts. */
final class Oasts {
    private Oasts() {
    }

    /** Puts a text into the buffer behind what stands there; bytes that are left over are 0 and so left out. */
    static void write(HopOast oast, String text) {
        for (int at = 0; at < text.length(); at += 20) {
            oast.append(four(text, at), four(text, at + 4), four(text, at + 8), four(text, at + 12),
                    four(text, at + 16));
        }
    }

    private static int four(String text, int at) {
        int value = 0;
        for (int i = at; i < at + 4; i++) {
            value = value << 8 | (i < text.length() ? text.charAt(i) : 0);
        }
        return value;
    }

    static int load(HopOast oast, String setup) {
        write(oast, setup);
        return oast.load();
    }

    static int run(HopOast oast, String script) {
        write(oast, script);
        return oast.runScript();
    }

    static HopOast of(String setup) {
        HopOast oast = new HopOast();
        if (load(oast, setup) != 0) {
            throw new AssertionError("wrong setup " + setup + " at " + oast.errorPosition());
        }
        return oast;
    }

    static String output(HopOast oast) {
        StringBuilder text = new StringBuilder();
        for (int i = 0; oast.outputByte(i) != HopOast.NONE; i++) {
            text.append((char) oast.outputByte(i));
        }
        return text.toString();
    }

    static String floors(HopOast oast) {
        oast.writeFloors();
        return output(oast);
    }

    static String sacks(HopOast oast) {
        oast.writeSacks();
        return output(oast);
    }
}
