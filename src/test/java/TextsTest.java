/**
 * The boundary cases that "Texts" and the promises of the text buffer name, a test for each sentence.
 * How append and truncate are refused is in RefusalTest.
 */
public final class TextsTest {
    private static final int NONE = HopOast.NONE;
    private static final int SYNTAX = HopOast.SYNTAX;
    private static final int RANGE = HopOast.OUT_OF_RANGE;
    private static final int TAKEN = HopOast.FLOOR_TAKEN;
    private static final int MANY = HopOast.TOO_MANY;
    private static final int FULL = 800;
    private static final String HEAD = "oast 60 1 2 6 7;";
    private static final String FOUR = HEAD + "floor 70;floor 70;floor 70;floor 70;";

    private final Check check = new Check();

    private TextsTest() {
    }

    public static void main(String[] args) {
        TextsTest test = new TextsTest();
        test.buffer();
        test.bytesOfAParameter();
        test.truncated();
        test.words();
        test.separators();
        test.everyByte();
        test.numbersOfASetup();
        test.numbersOfAScript();
        test.floorNumbers();
        test.grammar();
        test.commands();
        test.emptied();
        test.damper();
        test.firstError();
        test.smallestCode();
        test.position();
        test.syntax();
        test.tooMany();
        test.check.close();
    }

    private void setup(String what, int code, int position, String text) {
        HopOast oast = new HopOast();
        check.same("setup: " + what, code, Oasts.load(oast, text));
        check.same("setup: " + what + ": code", code, oast.errorCode());
        check.same("setup: " + what + ": position", position, oast.errorPosition());
        check.same("setup: " + what + ": the buffer is empty", 0, oast.append(0, 0, 0, 0, 0));
    }

    private void script(String what, int code, int position, String text) {
        HopOast oast = new HopOast();
        int answer = Oasts.run(oast, text);
        check.yes("script: " + what + ": " + answer, code == 0 ? answer >= 0 : answer == NONE);
        check.same("script: " + what + ": code", code, oast.errorCode());
        check.same("script: " + what + ": position", position, oast.errorPosition());
        check.same("script: " + what + ": a change", code == 0 ? 1 : 0, oast.undoCount());
        check.same("script: " + what + ": the buffer is empty", 0, oast.append(0, 0, 0, 0, 0));
    }

    private static String spaces(int count) {
        return " ".repeat(count);
    }

    private void buffer() {
        check.sentence("The text buffer holds at most 800 bytes.");
        HopOast oast = new HopOast();
        check.same("a new one is empty", 0, oast.append(0, 0, 0, 0, 0));
        check.same("one byte", 1, oast.append(0, 0, 0, 0, ' '));
        Oasts.write(oast, spaces(FULL - 2));
        check.same("799 bytes", FULL - 1, oast.append(0, 0, 0, 0, 0));
        check.same("800 bytes", FULL, oast.append(0, 0, 0, 0, ' '));
        check.illegalState("801 bytes", () -> oast.append(0, 0, 0, 0, ' '));
        check.same("no byte more", FULL, oast.append(0, 0, 0, 0, 0));
        check.same("a full buffer of blanks is a script", 0, oast.runScript());
        check.same("it is empty then", 0, oast.append(0, 0, 0, 0, 0));
        script("the last byte of a full buffer is read", 0, NONE, spaces(FULL - 7) + "gear 0;");
        setup("the last byte of a full buffer is read", 0, NONE, spaces(FULL - 25) + HEAD + "floor 70;");
        script("the last byte of a full buffer is wrong", SYNTAX, FULL - 1, spaces(FULL - 1) + "x");
        setup("the last byte of a full buffer is wrong", SYNTAX, FULL - 1,
                HEAD + "floor 70;" + spaces(FULL - 26) + "x");
        script("a full buffer ends too early", SYNTAX, FULL, "gear" + spaces(FULL - 4));
        setup("a full buffer ends too early", SYNTAX, FULL, "oast" + spaces(FULL - 4));
        script("a word of 800 letters", SYNTAX, 0, "gear".repeat(FULL / 4));
        setup("a word of 800 letters", SYNTAX, 0, "oast".repeat(FULL / 4));
        script("a number of 794 digits", 0, NONE, "gear " + "0".repeat(FULL - 7) + "4;");
        script("a number of 794 digits that is too large", RANGE, 5, "gear " + "0".repeat(FULL - 7) + "5;");
        script("800 zeros", SYNTAX, 0, "0".repeat(FULL));
    }

    private void bytesOfAParameter() {
        check.sentence("Appends the four bytes of each parameter, the most significant byte first, to the text buffer. "
                + "Bytes that are 0 are left out.");
        HopOast oast = new HopOast();
        // The characters of wind 7 3;gear 4;rotate in the order of the bytes.
        oast.append(0x77696e64, 0x20372033, 0x3b676561, 0x72203420, 0x3b726f74);
        check.same("20 bytes and 4", 24, oast.append(0x00006174, 0, 0x65000000, 0x00003b00, 0));
        check.same("three commands", 3, oast.runScript());
        check.same("direction", 7, oast.windDirection());
        check.same("strength", 3, oast.windStrength());
        check.same("gear", 4, oast.gear());
        for (int kept = 0; kept < 16; kept++) {
            int four = bytesOf(kept, 'a');
            for (int place = 0; place < 5; place++) {
                int[] p = new int[5];
                p[place] = four;
                check.same("bytes " + kept + " of parameter " + place, Integer.bitCount(kept),
                        new HopOast().append(p[0], p[1], p[2], p[3], p[4]));
            }
        }
        check.same("no byte", 0, new HopOast().append(0, 0, 0, 0, 0));
        check.same("20 bytes", 20, new HopOast().append(-1, -1, -1, -1, -1));
        check.same("the greatest ints", 20, new HopOast().append(Integer.MAX_VALUE, Integer.MAX_VALUE,
                Integer.MAX_VALUE, Integer.MAX_VALUE, Integer.MAX_VALUE));
        check.same("the least ints have one byte that is not 0", 5, new HopOast().append(Integer.MIN_VALUE,
                Integer.MIN_VALUE, Integer.MIN_VALUE, Integer.MIN_VALUE, Integer.MIN_VALUE));
        check.same("256 has one byte that is not 0", 1, new HopOast().append(256, 0, 0, 0, 0));
    }

    private static int bytesOf(int kept, int letter) {
        int four = 0;
        for (int i = 0; i < 4; i++) {
            four = four << 8 | ((kept >> 3 - i & 1) == 1 ? letter : 0);
        }
        return four;
    }

    private void truncated() {
        check.sentence("the new length, from 0 to the present length");
        HopOast oast = new HopOast();
        check.same("0 of 0", 0, oast.truncate(0));
        Oasts.write(oast, "gear 2;gear 3;");
        check.same("14 of 14", 14, oast.truncate(14));
        check.same("13 of 14", 13, oast.truncate(13));
        check.same("7 of 13", 7, oast.truncate(7));
        check.same("the first bytes stay", 1, oast.runScript());
        check.same("gear", 2, oast.gear());
        Oasts.write(oast, spaces(FULL));
        check.same("800 of 800", FULL, oast.truncate(FULL));
        check.same("799 of 800", FULL - 1, oast.truncate(FULL - 1));
        check.same("room for one byte", FULL, oast.append(' ', 0, 0, 0, 0));
        check.same("0 of 800", 0, oast.truncate(0));
        check.same("nothing is left", 0, oast.runScript());
        Oasts.write(oast, "g");
        check.same("0 of 1", 0, oast.truncate(0));
    }

    private void words() {
        check.sentence("A word is a maximal run of the letters a to z, a number is a maximal run of decimal digits "
                + "(leading zeros are allowed), and each of the characters ; ( and ) is a token of its own.");
        script("a word ends before a digit, a number before a letter", SYNTAX, 6, "gear04gear;");
        script("a word that goes on", SYNTAX, 0, "geara 4;");
        script("a word that begins earlier", SYNTAX, 0, "zgear 4;");
        script("a word in two pieces", SYNTAX, 0, "ge ar 4;");
        script("a number in two pieces", SYNTAX, 7, "wait 1 0;");
        script("a number that goes on", RANGE, 5, "gear 00000000040;");
        script("zeros", 0, NONE, "gear 0000000000000000;");
        script("leading zeros", 0, NONE, "gear 0000000000000004;");
        setup("leading zeros", 0, NONE, "oast 0090 00004 07 0000009 007;floor 00000000000000000000090;");
        script("marks without blanks", 0, NONE, "repeat 1(repeat 1(rotate;););");
        script("two marks are two tokens", SYNTAX, 7, "gear 4;;");
        script("brackets are tokens of their own", SYNTAX, 8, "repeat 1)(;");
        HopOast oast = new HopOast();
        check.same("no blanks but between numbers", 3, Oasts.run(oast, "wind7 9;gear4;fire00;"));
        check.same("direction", 7, oast.windDirection());
        check.same("strength", 9, oast.windStrength());
    }

    private void separators() {
        check.sentence("Spaces (byte 32) and line feeds (byte 10) may separate tokens; "
                + "they may also stand at the beginning and at the end.");
        script("spaces", 0, NONE, "   gear   4   ;   ");
        script("line feeds", 0, NONE, "\n\ngear\n\n4\n;\n");
        script("both", 0, NONE, " \n wind \n 7 \n 9 \n ; \n ");
        setup("line feeds", 0, NONE, "\noast\n60\n1\n2\n6\n7\n;\nfloor\n70\n;\nload\n0\n1\n1\n;\n");
        script("a script of one space", 0, NONE, " ");
        script("a script of one line feed", 0, NONE, "\n");
        setup("a setup of one space", SYNTAX, 1, " ");
        setup("a setup of one line feed", SYNTAX, 1, "\n");
        script("in brackets", 0, NONE, "repeat 2 ( \n ) ;");
    }

    /** What a byte is, is seen in four places: between a word and a number, and in those of the three marks. */
    private void everyByte() {
        check.sentence("Every other byte is an invalid token.");
        for (int value = 1; value < 256; value++) {
            char sign = (char) value;
            String what = "byte " + value;
            boolean letter = sign >= 'a' && sign <= 'z';
            boolean digit = sign >= '0' && sign <= '9';
            int blank = sign == ' ' || sign == '\n' ? 1 : 0;
            if (digit || blank == 1) {
                script(what + " before a number", 0, NONE, "wait" + sign + "1;");
            } else {
                script(what + " before a number", SYNTAX, letter ? 0 : 4, "wait" + sign + "1;");
            }
            if (sign != ';') {
                script(what + " as ;", SYNTAX, letter ? 0 : 6 + blank, "rotate" + sign);
            }
            if (sign != '(') {
                script(what + " as (", digit ? RANGE : SYNTAX, digit ? 7 : 8 + blank, "repeat 9" + sign + ");");
            }
            if (sign != ')') {
                script(what + " as )", SYNTAX, 10 + blank, "repeat 20(" + sign + ";");
            }
        }
        script("the mark ;", 0, NONE, "rotate;");
        script("the marks ( and )", 0, NONE, "repeat 9();");
    }

    /** All numbers of a setup: the least and the greatest, and the first beyond each of them. */
    private void numbersOfASetup() {
        check.sentence("The other numbers have the ranges given above.");
        setupNumber("heat", "oast ", 0, 90, " 1 2 6 7;floor 70;");
        setupNumber("gear", "oast 60 ", 0, 4, " 2 6 7;floor 70;");
        setupNumber("direction", "oast 60 1 ", 0, 7, " 6 7;floor 70;");
        setupNumber("strength", "oast 60 1 2 ", 0, 9, " 7;floor 70;");
        setupNumber("vane", "oast 60 1 2 6 ", 0, 7, ";floor 70;");
        setupNumber("limit of the first floor", HEAD + "floor ", 40, 90, ";");
        setupNumber("limit of the fourth floor", HEAD + "floor 70;floor 70;floor 70;floor ", 40, 90, ";");
        setupNumber("mass", FOUR + "load 3 ", 1, 99, " 5;");
        setupNumber("moisture", FOUR + "load 3 5 ", 0, 800, ";");
        scriptNumber("mass", "load ", 1, 99, " 5;");
        scriptNumber("moisture", "load 5 ", 0, 800, ";");
        scriptNumber("heat", "fire ", 0, 90, ";");
        scriptNumber("gear", "gear ", 0, 4, ";");
        scriptNumber("direction", "wind ", 0, 7, " 5;");
        scriptNumber("strength", "wind 5 ", 0, 9, ";");
    }

    private void numbersOfAScript() {
        check.sentence("In a script, a floorNumber is 0 to 3, a sackNumber is 0 to 19, minutes are 1 to 120, "
                + "and times is 1 to 20.");
        scriptNumber("floor", "lower ", 0, 3, ";");
        scriptNumber("sack to sell", "sell ", 0, 19, ";");
        scriptNumber("sack to quench", "quench ", 0, 19, ";");
        scriptNumber("minutes", "wait ", 1, 120, ";");
        scriptNumber("times", "repeat ", 1, 20, "(rotate;);");
        scriptNumber("times in brackets", "repeat 1(repeat ", 1, 20, "(rotate;););");
        HopOast oast = Oasts.of("oast 60 0 0 0 0;floor 70;");
        check.same("floor 3 of one floor is no error", 0, Oasts.run(oast, "lower 3;"));
        check.same("no error", 0, oast.errorCode());
    }

    private void setupNumber(String what, String before, int low, int high, String behind) {
        int at = before.length();
        setup(what + " " + low, 0, NONE, before + low + behind);
        setup(what + " " + high, 0, NONE, before + high + behind);
        if (low > 0) {
            setup(what + " " + (low - 1), RANGE, at, before + (low - 1) + behind);
        }
        setup(what + " " + (high + 1), RANGE, at, before + (high + 1) + behind);
        setup(what + " below 0", SYNTAX, at, before + "-1" + behind);
        for (String far : farNumbers(low)) {
            setup(what + " " + far, RANGE, at, before + far + behind);
        }
        setup(what + " is missing", SYNTAX, at, before + ";" + behind);
        setup(what + " is a word", SYNTAX, at, before + "one" + behind);
        setup(what + ": the end", SYNTAX, at, before);
    }

    private void scriptNumber(String what, String before, int low, int high, String behind) {
        int at = before.length();
        script(what + " " + low, 0, NONE, before + low + behind);
        script(what + " " + high, 0, NONE, before + high + behind);
        if (low > 0) {
            script(what + " " + (low - 1), RANGE, at, before + (low - 1) + behind);
        }
        script(what + " " + (high + 1), RANGE, at, before + (high + 1) + behind);
        script(what + " below 0", SYNTAX, at, before + "-1" + behind);
        for (String far : farNumbers(low)) {
            script(what + " " + far, RANGE, at, before + far + behind);
        }
        script(what + " is missing", SYNTAX, at, before + ";" + behind);
        script(what + " is a word", SYNTAX, at, before + "one" + behind);
        script(what + ": the end", SYNTAX, at, before);
    }

    /** The greatest int and long, and numbers that come down to an allowed one if an int or a long wraps around. */
    private static String[] farNumbers(int low) {
        return new String[] {"2147483647", "2147483648", Long.toString((1L << 32) + low), "9223372036854775807",
                new java.math.BigInteger("18446744073709551616").add(java.math.BigInteger.valueOf(low)).toString(),
                "1" + "0".repeat(99) + low};
    }

    private void floorNumbers() {
        check.sentence("In a setup, a floorNumber is the number of a floor.");
        String floors = "";
        for (int count = 1; count <= 4; count++) {
            floors += "floor 70;";
            String before = HEAD + floors + "load ";
            setup("floor 0 of " + count, 0, NONE, before + "0 1 1;");
            setup("floor " + (count - 1) + " of " + count, 0, NONE, before + (count - 1) + " 1 1;");
            setup("floor " + count + " of " + count, RANGE, before.length(), before + count + " 1 1;");
            setup("a far floor of " + count, RANGE, before.length(), before + "4294967296 1 1;");
            setup("floor -1 of " + count, SYNTAX, before.length(), before + "-1 1 1;");
        }
    }

    private void grammar() {
        check.sentence("setup = \"oast\" heat gear windDirection windStrength vaneDirection \";\" floor { floor } "
                + "{ \"load\" floorNumber mass moisture \";\" } floor = \"floor\" limit \";\"");
        setup("the empty text", SYNTAX, 0, "");
        setup("no floor", SYNTAX, HEAD.length(), HEAD);
        setup("one floor and no load", 0, NONE, HEAD + "floor 70;");
        setup("four floors and four loads", 0, NONE, FOUR + "load 3 1 1;load 0 1 1;load 2 1 1;load 1 1 1;");
        setup("a load and no floor", SYNTAX, HEAD.length(), HEAD + "load 0 1 1;");
        setup("a floor behind a load", SYNTAX, HEAD.length() + 20, HEAD + "floor 70;load 0 1 1;floor 70;");
        setup("a second setup", SYNTAX, HEAD.length() + 9, HEAD + "floor 70;" + HEAD + "floor 70;");
        setup("no \"oast\"", SYNTAX, 0, "60 1 2 6 7;floor 70;");
        setup("a command of a script", SYNTAX, 25, HEAD + "floor 70;rotate;");
        check.sentence("script = { command \";\" }");
        script("the empty text", 0, NONE, "");
        script("one command", 0, NONE, "rotate;");
        script("a semicolon and no command", SYNTAX, 0, ";");
        script("a command and no semicolon", SYNTAX, 6, "rotate");
        script("a bracket and no command", SYNTAX, 0, ")");
        script("empty brackets", 0, NONE, "repeat 1();");
        script("empty brackets in brackets", 0, NONE, "repeat 1(repeat 1(););");
        script("brackets without \"repeat\"", SYNTAX, 0, "(rotate;);");
        script("brackets without times", SYNTAX, 6, "repeat(rotate;);");
        script("no semicolon behind brackets", SYNTAX, 17, "repeat 1(rotate;)");
        script("brackets that stay open", SYNTAX, 16, "repeat 1(rotate;");
        script("brackets that were never opened", SYNTAX, 7, "rotate;);");
        script("a setup", SYNTAX, 0, HEAD + "floor 70;");
        String[] words = {"load", "lower", "rotate", "fire", "gear", "wind", "sell", "quench", "wait", "repeat"};
        for (String word : words) {
            script(word + " cut off", SYNTAX, 0, word.substring(0, word.length() - 1) + " 1 1;");
            script(word + " and a letter", SYNTAX, 0, word + "s 1 1;");
            script(word + " with another first letter", SYNTAX, 0, "x" + word.substring(1) + " 1 1;");
            script(word + " with another last letter", SYNTAX, 0, word.substring(0, word.length() - 1) + "x 1 1;");
            script(word + " with a capital letter", SYNTAX, 0, (char) (word.charAt(0) - 32) + word.substring(1) + " 1;");
            script(word + " and the end", SYNTAX, word.length(), word);
        }
    }

    private void commands() {
        check.sentence("command = \"load\" mass moisture | \"lower\" floorNumber | \"rotate\" | \"fire\" heat | "
                + "\"gear\" gear | \"wind\" direction strength | \"sell\" sackNumber | \"quench\" sackNumber | "
                + "\"wait\" minutes | \"repeat\" times \"(\" script \")\"");
        command("load", 2, "");
        command("lower", 1, "");
        command("rotate", 0, "");
        command("fire", 1, "");
        command("gear", 1, "");
        command("wind", 2, "");
        command("sell", 1, "");
        command("quench", 1, "");
        command("wait", 1, "");
        command("repeat", 1, "()");
        command("repeat", 1, "(rotate;)");
        command("repeat", 1, "(repeat 1();)");
    }

    /** As many numbers as the command has, one fewer and one more. */
    private void command(String word, int numbers, String brackets) {
        String right = word + " 1".repeat(numbers);
        script(right, 0, NONE, right + brackets + ";");
        script(right + " and one more number", SYNTAX, right.length() + 1, right + " 1" + brackets + ";");
        script(right + " without its semicolon", SYNTAX, right.length() + brackets.length(), right + brackets);
        if (numbers > 0) {
            String fewer = word + " 1".repeat(numbers - 1);
            script(right + " without its last number", SYNTAX, fewer.length(), fewer + ";");
        }
        String other = brackets.isEmpty() ? "();" : ";";
        script(right + " and " + other, SYNTAX, right.length(), right + other);
    }

    private void emptied() {
        check.sentence("Parses the text buffer as a setup and empties the buffer.");
        HopOast oast = new HopOast();
        check.same("the empty setup", SYNTAX, oast.load());
        check.same("nothing is left of it", 0, oast.append(0, 0, 0, 0, 0));
        check.same("a full buffer with an error", SYNTAX, Oasts.load(oast, "x" + spaces(FULL - 1)));
        check.same("nothing is left of it", 0, oast.append(0, 0, 0, 0, 0));
        check.same("a full buffer without an error", 0, Oasts.load(oast, HEAD + "floor 70;" + spaces(FULL - 25)));
        check.same("nothing is left of it", 0, oast.append(0, 0, 0, 0, 0));
        check.same("it is not read again", SYNTAX, oast.load());

        check.sentence("Parses the text buffer as a script, empties the buffer, and executes the script if it has no error.");
        check.same("the empty script", 0, oast.runScript());
        check.same("a full buffer with an error", NONE, Oasts.run(oast, "gear 4;" + spaces(FULL - 8) + "x"));
        check.same("nothing is executed", 1, oast.gear());
        check.same("nothing is left of it", 0, oast.append(0, 0, 0, 0, 0));
        check.same("a full buffer without an error", 1, Oasts.run(oast, "gear 4;" + spaces(FULL - 7)));
        check.same("it is executed", 4, oast.gear());
        check.same("nothing is left of it", 0, oast.append(0, 0, 0, 0, 0));
        check.same("it is not executed again", 0, oast.runScript());
        check.same("an error in brackets", NONE, Oasts.run(oast, "gear 3;repeat 2(repeat 2(gear 1;"));
        check.same("is no bracket of the next script", 4, Oasts.run(oast, "repeat 2(repeat 2(gear 2;););"));
        check.same("30 commands", 30, Oasts.run(oast, "gear 2;".repeat(30)));
        check.same("30 commands once more", 30, Oasts.run(oast, "gear 2;".repeat(30)));

        check.sentence("Returns the number of bytes in the buffer.");
        check.same("0", 0, oast.append(0, 0, 0, 0, 0));
        check.same("1", 1, oast.append(0, 0, ' ', 0, 0));
        check.same("21", 21, oast.append(-1, -1, -1, -1, -1));
        Oasts.write(oast, spaces(FULL - 21));
        check.same("800", FULL, oast.append(0, 0, 0, 0, 0));
        check.sentence("Returns the new length.");
        check.same("800", FULL, oast.truncate(FULL));
        check.same("1", 1, oast.truncate(1));
        check.same("0", 0, oast.truncate(0));
    }

    private void damper() {
        check.sentence("The damper acts when the setup has been read, which dampedHeat does not count.");
        HopOast oast = Oasts.of("oast 90 0 0 0 0;floor 90;floor 40;load 0 1 800;");
        check.same("floor 1 is at its limit", 40, oast.temperatureOf(1));
        check.same("heat", 25 + 4 + 8, oast.heat());
        check.same("dampedHeat", 0, oast.dampedHeat());
        oast.setHeat(90);
        check.same("dampedHeat of a change", 90 - 37, oast.dampedHeat());
        Oasts.load(oast, "oast 90 0 0 0 0;floor 40;");
        check.same("dampedHeat of the next house", 0, oast.dampedHeat());
    }

    private void firstError() {
        check.sentence("The parser reads the tokens from left to right and stops at the first token that has an error.");
        setup("a number out of range, then no word", RANGE, 5, "oast 91 ? ? ?");
        setup("no word, then a number out of range", SYNTAX, 0, "oats 91 1 1 1 1;");
        setup("a floor taken, then a mass out of range", TAKEN, 41, HEAD + "floor 70;load 0 1 1;load 0 100 1;");
        setup("a mass out of range, then a floor taken", RANGE, 32, HEAD + "floor 70;load 0 100 1;load 0 1 1;");
        setup("a fifth floor, then its limit", MANY, FOUR.length(), FOUR + "floor 39;");
        setup("the limit of the fourth floor, then a fifth", RANGE, 49,
                HEAD + "floor 70;floor 70;floor 70;floor 91;floor 70;");
        script("two numbers out of range", RANGE, 5, "wind 8 10;");
        script("the second of two commands", RANGE, 12, "gear 4;gear 5;gear 6;");
        script("an invalid byte behind an error", RANGE, 5, "gear 5?");
        script("a bracket too many, then an error in it", MANY, 26, "repeat 1(repeat 1(repeat 1(gear 9");
        script("a number out of range, then a bracket too many", RANGE, 25, "repeat 1(repeat 1(repeat 0(");
    }

    private void smallestCode() {
        check.sentence("If several error codes apply to this token, the smallest code is reported.");
        setup("a number out of its range where none may stand", SYNTAX, 16, "oast 60 1 2 6 7 999;floor 70;");
        setup("the word of a fifth floor behind a load", SYNTAX, FOUR.length() + 11, FOUR + "load 0 1 1;floor 70;");
        setup("the word of a fifth floor, which is none", SYNTAX, FOUR.length(), FOUR + "floors 70;");
        setup("the word of a fifth floor in the place of a number", SYNTAX, FOUR.length() + 5, FOUR + "load floor 1 1;");
        script("a number out of its range where none may stand", SYNTAX, 7, "rotate 9999;");
        script("a bracket inside of two others where none may stand", SYNTAX, 18, "repeat 1(repeat 1((");
        script("a bracket inside of two others in the place of a number", SYNTAX, 25, "repeat 1(repeat 1(repeat (");
        String thirty = "gear 1;".repeat(30);
        script("a 31st command, which is none", SYNTAX, 210, thirty + "gears 1;");
        script("a number in the place of a 31st command", SYNTAX, 210, thirty + "99999;");
        script("a semicolon in the place of a 31st command", SYNTAX, 210, thirty + ";");
        script("an invalid byte in the place of a 31st command", SYNTAX, 210, thirty + "?");
    }

    private void position() {
        check.sentence("The error position is the index of the first byte of the token, "
                + "or the length of the text if the text ends too early.");
        script("the first byte", SYNTAX, 0, "x");
        script("behind blanks", SYNTAX, 3, " \n x");
        script("a long word", SYNTAX, 7, "gear 1;abcdefgh");
        script("a long number", RANGE, 5, "gear 123456789;");
        script("an invalid byte among blanks", SYNTAX, 8, "gear 1; \t ");
        script("the second of two invalid bytes is not met", SYNTAX, 7, "gear 1;??");
        script("the end behind a word", SYNTAX, 4, "gear");
        script("the end behind a word and blanks", SYNTAX, 7, "gear \n ");
        script("the end behind a number", SYNTAX, 6, "gear 1");
        script("the end in brackets", SYNTAX, 9, "repeat 1(");
        setup("the end of an empty text", SYNTAX, 0, "");
        setup("the end behind blanks", SYNTAX, 2, "  ");
        for (int length : new int[] {0, 4, 5, 7, 8, 9, 10, 11, 12, 13, 14, 15, 16, 21, 22, 24}) {
            setup("the end behind " + length, SYNTAX, length, (HEAD + "floor 70;").substring(0, length));
        }
    }

    private void syntax() {
        check.sentence("Error code: a token is invalid or not allowed at its place, or the text ends too early.");
        script("invalid", SYNTAX, 5, "gear -1;");
        script("not allowed at its place", SYNTAX, 5, "gear ;");
        script("ends too early", SYNTAX, 5, "gear ");
        setup("invalid", SYNTAX, 5, "oast -60 1 2 6 7;floor 70;");
        setup("not allowed at its place", SYNTAX, 5, "oast ;");
        setup("ends too early", SYNTAX, 5, "oast ");
        check.sentence("Error code: a number is out of its range.");
        setup("greater", RANGE, 5, "oast 91 1 2 6 7;floor 70;");
        setup("less", RANGE, 22, HEAD + "floor 39;");
        script("greater", RANGE, 5, "fire 91;");
        script("less", RANGE, 5, "wait 0;");
        check.sentence("Error code: in a setup the number of a floor on which there is a load already.");
        setup("floor 0", TAKEN, 41, HEAD + "floor 70;load 0 1 1;load 0 1 1;");
        setup("floor 3", TAKEN, FOUR.length() + 16, FOUR + "load 3 1 1;load 3 1 1;");
        setup("with leading zeros", TAKEN, FOUR.length() + 16, FOUR + "load 3 1 1;load 003 1 1;");
        setup("a fifth load", TAKEN, FOUR.length() + 49,
                FOUR + "load 3 1 1;load 0 1 1;load 2 1 1;load 1 1 1;load 1 1 1;");
        setup("other floors are free", 0, NONE, FOUR + "load 3 1 1;load 2 1 1;");
        script("a script does not ask", 0, NONE, "load 1 1;load 1 1;load 1 1;load 1 1;load 1 1;");
    }

    private void tooMany() {
        check.sentence("Error code: in a setup the word of a fifth floor; in a script the word of a 31st command "
                + "(those in brackets and \"repeat\" included), or the bracket ( inside of two others.");
        setup("four floors", 0, NONE, FOUR);
        setup("a fifth floor", MANY, FOUR.length(), FOUR + "floor 70;");
        setup("a fifth floor and the end", MANY, FOUR.length(), FOUR + "floor");
        String[] words = {"load", "lower", "rotate", "fire", "gear", "wind", "sell", "quench", "wait", "repeat"};
        String thirty = "fire 9;".repeat(30);
        script("30 commands", 0, NONE, thirty);
        for (String word : words) {
            script("a 31st command " + word, MANY, 210, thirty + word);
        }
        String brackets = "repeat 2(repeat 2(" + "fire 9;".repeat(28);
        script("30 commands with those in brackets", 0, NONE, brackets + "););");
        script("a 31st command in brackets", MANY, brackets.length(), brackets + "fire 9;););");
        script("a 31st command behind brackets", MANY, brackets.length() + 2, brackets + ");fire 9;);");
        script("a 31st command behind all brackets", MANY, brackets.length() + 4, brackets + "););fire 9;");
        script("30 repeats", 0, NONE, "repeat 2();".repeat(30));
        script("31 repeats", MANY, 330, "repeat 2();".repeat(31));
        script("a bracket inside of none", 0, NONE, "repeat 2();");
        script("a bracket inside of one", 0, NONE, "repeat 2(repeat 2(););");
        script("a bracket inside of two", MANY, 26, "repeat 2(repeat 2(repeat 2();););");
        script("two brackets, closed and opened again", 0, NONE, "repeat 2(repeat 2();repeat 2(););repeat 2(repeat 2(););");
        script("and a third inside", MANY, 38, "repeat 2(repeat 2();repeat 2(repeat 2 ();););");
        script("the 30th command is a repeat inside of two brackets", MANY, 18 + 27 * 7 + 8,
                "repeat 2(repeat 2(" + "fire 9;".repeat(27) + "repeat 2(););");
    }
}
