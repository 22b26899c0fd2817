/** The example of README.md, which quotes this file; ReadmeTest compares what it prints. */
public final class Example {
    private Example() {
    }

    public static void main(String[] args) {
        HopOast oast = new HopOast();
        oast.writeFloors();
        System.out.println("a new object: " + output(oast));

        write(oast, "oast 50 1 0 4 0; floor 70; floor 60; load 0 20 150; load 1 30 420;");
        System.out.println("load: " + oast.load());
        write(oast, "wait 3; rotate; repeat 2 (gear 0; wait 2;);");
        System.out.println("commands: " + oast.runScript());
        oast.writeFloors();
        System.out.println("minute " + oast.minute() + ": " + output(oast));
        System.out.println("floor 0 will be dry in " + oast.minutesUntilDry(0) + " minutes");
        System.out.println("sack 0 is sold for " + oast.sell(0));
        System.out.println("changes to undo: " + oast.undo());

        write(oast, "wait 3; fire 91;");
        System.out.println("commands: " + oast.runScript());
        System.out.println("error " + oast.errorCode() + " at byte " + oast.errorPosition());
        try {
            oast.putLoad(100, 800);
        } catch (IllegalArgumentException e) {
            System.out.println("refused; the minute is still " + oast.minute());
        }
    }

    /** Bytes that are 0 are left out, so the end of the text needs no care. */
    private static void write(HopOast oast, String text) {
        int[] fours = new int[(text.length() + 19) / 20 * 5];
        for (int i = 0; i < text.length(); i++) {
            fours[i / 4] |= text.charAt(i) << 24 - i % 4 * 8;
        }
        for (int i = 0; i < fours.length; i += 5) {
            oast.append(fours[i], fours[i + 1], fours[i + 2], fours[i + 3], fours[i + 4]);
        }
    }

    private static String output(HopOast oast) {
        StringBuilder text = new StringBuilder();
        int next = oast.outputByte(0);
        while (next != HopOast.NONE) {
            text.append((char) next);
            next = oast.outputByte(text.length());
        }
        return text.toString();
    }
}
