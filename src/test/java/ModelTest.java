import java.util.Random;
import java.util.function.Supplier;

/** Plays many seeded runs on HopOast and on the model, and compares every answer and all that can be seen. */
public final class ModelTest {
    private static final int RUNS = 6000;
    private static final int CALLS = 512;

    private final Random random;
    private final HopOast oast = new HopOast();
    private final ModelOast model = new ModelOast();
    private final StringBuilder story = new StringBuilder();
    private int calls;
    private boolean wrong;

    private ModelTest(long seed) {
        random = new Random(seed);
    }

    public static void main(String[] args) {
        int failures = 0;
        for (int seed = 0; seed < RUNS && failures < 3; seed++) {
            ModelTest test = new ModelTest(seed);
            test.play();
            if (test.wrong) {
                failures++;
                System.out.println("seed " + seed + ":\n" + test.story);
            }
        }
        if (failures > 0) {
            System.exit(1);
        }
    }

    private static String answer(Supplier<Object> call) {
        try {
            return String.valueOf(call.get());
        } catch (RuntimeException e) {
            return e.getClass().getName();
        }
    }

    /** Calls both, as long as the object may be used. */
    private void both(String what, Supplier<Object> mine, Supplier<Object> due) {
        if (calls >= CALLS) {
            return;
        }
        calls++;
        String got = answer(mine);
        String want = answer(due);
        if (!got.equals(want) && !wrong) {
            wrong = true;
            story.append(what).append(" answered ").append(got).append(", due is ").append(want).append('\n');
        }
    }

    /** As both, but only now and then, so that the calls last for a long run. */
    private void see(String what, Supplier<Object> mine, Supplier<Object> due) {
        if (random.nextInt(12) == 0) {
            both(what, mine, due);
        }
    }

    private void change(String what, Supplier<Object> mine, Supplier<Object> due) {
        if (!wrong) {
            story.append(what).append('\n');
        }
        both(what, mine, due);
    }

    private void play() {
        if (random.nextInt(4) > 0) {
            text(setup());
            change("load", oast::load, model::load);
        }
        switch (random.nextInt(6)) {
            case 0:
                begin("repeat 20(wait 120;wait 120;);");
                begin("repeat 20(wait 120;wait 120;);");
                break;
            case 1:
                begin(packing());
                begin(packing());
                break;
            default:
        }
        while (calls < CALLS && !wrong) {
            step();
            look();
        }
    }

    /** Runs a script that leads to where single calls seldom come. */
    private void begin(String script) {
        text(script);
        change("runScript", oast::runScript, model::runScript);
        look();
    }

    private String packing() {
        int wet = random.nextInt(4) == 0 ? upTo(100) : upTo(59);
        String cool = random.nextInt(3) == 0 ? "quench " + upTo(9) + ";" : "";
        return "gear 0;fire 90;repeat 20(load " + (1 + upTo(98)) + " " + wet + ";rotate;rotate;"
                + (random.nextBoolean() ? "rotate;" : "") + (random.nextInt(3) == 0 ? "wait 1;" : "") + ");" + cool;
    }

    private int upTo(int high) {
        return random.nextInt(high + 1);
    }

    /** Mostly from low to high, now and then just outside or far outside. */
    private int about(int low, int high) {
        switch (random.nextInt(24)) {
            case 0: return low - 1;
            case 1: return high + 1;
            case 2: return random.nextInt();
            case 3: return low;
            case 4: return high;
            default: return low + upTo(high - low);
        }
    }

    private void step() {
        int a;
        int b;
        switch (random.nextInt(26)) {
            case 0: case 1:
                int mass = about(1, 99);
                int moisture = random.nextInt(2) == 0 ? about(0, 120) : about(0, 800);
                change("putLoad " + mass + " " + moisture, () -> oast.putLoad(mass, moisture),
                        () -> model.putLoad(mass, moisture));
                break;
            case 2: case 3: case 4:
                int floor = random.nextInt(3) == 0 ? 0 : about(0, 3);
                change("lower " + floor, () -> oast.lower(floor), () -> model.lower(floor));
                break;
            case 5: case 6:
                change("rotate", oast::rotate, model::rotate);
                break;
            case 7: case 8:
                int heat = random.nextInt(3) == 0 ? 90 : about(0, 90);
                change("setHeat " + heat, () -> oast.setHeat(heat), () -> model.setHeat(heat));
                break;
            case 9:
                int gear = about(0, 4);
                change("setGear " + gear, () -> oast.setGear(gear), () -> model.setGear(gear));
                break;
            case 10:
                int direction = about(0, 7);
                int strength = about(0, 9);
                change("setWind " + direction + " " + strength, () -> oast.setWind(direction, strength),
                        () -> model.setWind(direction, strength));
                break;
            case 11:
                a = about(0, Math.max(0, model.now.sacks.size() - 1));
                change("sell " + a, () -> oast.sell(a), () -> model.sell(a));
                break;
            case 12:
                b = about(0, Math.max(0, model.now.sacks.size() - 1));
                change("quench " + b, () -> oast.quench(b), () -> model.quench(b));
                break;
            case 13: case 14: case 15:
                int minutes = random.nextInt(3) == 0 ? about(1, 120) : about(1, 8);
                change("advance " + minutes, () -> oast.advance(minutes), () -> model.advance(minutes));
                break;
            case 16: case 17:
                text(random.nextInt(4) == 0 ? spoiled(script()) : script());
                change("runScript", oast::runScript, model::runScript);
                break;
            case 18:
                if (random.nextInt(4) == 0) {
                    text(random.nextInt(3) > 0 ? spoiled(setup()) : setup());
                    change("load", oast::load, model::load);
                }
                break;
            case 19: case 20:
                change("undo", oast::undo, model::undo);
                break;
            case 21:
                int kept = about(0, 1);
                change("save " + kept, () -> oast.save(kept), () -> model.save(kept));
                break;
            case 22:
                int old = about(0, 1);
                change("restore " + old, () -> oast.restore(old), () -> model.restore(old));
                break;
            case 23:
                change("writeFloors", oast::writeFloors, model::writeFloors);
                break;
            case 24:
                change("writeSacks", oast::writeSacks, model::writeSacks);
                break;
            default:
                int length = about(0, model.text.length());
                change("truncate " + length, () -> oast.truncate(length), () -> model.truncate(length));
        }
    }

    private void text(String text) {
        if (model.text.length() > 0) {
            if (random.nextInt(3) > 0) {
                change("truncate 0", () -> oast.truncate(0), () -> model.truncate(0));
            }
        }
        if (random.nextInt(20) == 0) {
            int letter = "ab01;( \n\u00ff".charAt(upTo(8));
            int four = letter << 24 | letter << 16 | letter << 8 | letter;
            for (int i = 0; i < 41; i++) {
                change("append " + four, () -> oast.append(four, four, four, four, four),
                        () -> model.append(four, four, four, four, four));
            }
            change("truncate 790", () -> oast.truncate(790), () -> model.truncate(790));
        }
        for (int at = 0; at < text.length(); at += 20) {
            int[] f = new int[5];
            for (int i = 0; i < 20; i++) {
                f[i / 4] = f[i / 4] << 8 | (at + i < text.length() ? text.charAt(at + i) : 0);
            }
            change("append '" + text.substring(at, Math.min(at + 20, text.length())) + "'",
                    () -> oast.append(f[0], f[1], f[2], f[3], f[4]),
                    () -> model.append(f[0], f[1], f[2], f[3], f[4]));
        }
    }

    private String number(int low, int high) {
        int value = random.nextInt(60) == 0 ? Math.max(0, about(low, high)) : low + upTo(high - low);
        return "0".repeat(random.nextInt(12) == 0 ? 3 : 0) + value;
    }

    private String blank() {
        return random.nextInt(10) == 0 ? " \n " : " ";
    }

    private String setup() {
        StringBuilder s = new StringBuilder("oast");
        int[] high = {90, 4, 7, 9, 7};
        for (int h : high) {
            s.append(blank()).append(number(0, h));
        }
        s.append(';');
        int floors = 1 + upTo(random.nextInt(20) == 0 ? 4 : 3);
        for (int i = 0; i < floors; i++) {
            s.append("floor").append(blank()).append(number(40, 90)).append(';');
        }
        for (int i = 0; i < floors; i++) {
            if (random.nextBoolean()) {
                int floor = random.nextInt(20) == 0 ? upTo(4) : i;
                s.append("load ").append(floor).append(blank()).append(number(1, 99)).append(blank())
                        .append(number(0, random.nextBoolean() ? 100 : 800)).append(';');
            }
        }
        return s.toString();
    }

    private String script() {
        StringBuilder s = new StringBuilder();
        int commands = random.nextInt(8) == 0 ? 34 : upTo(9);
        commands(s, commands, 0);
        return s.toString();
    }

    private void commands(StringBuilder s, int count, int depth) {
        for (int i = 0; i < count; i++) {
            s.append(random.nextInt(4) == 0 ? "\n" : "");
            switch (random.nextInt(13)) {
                case 0: s.append("load ").append(number(1, 99)).append(blank()).append(number(0, 150)); break;
                case 1: s.append("lower ").append(number(0, 3)); break;
                case 2: case 3: s.append("rotate"); break;
                case 4: s.append("fire ").append(number(0, 90)); break;
                case 5: s.append("gear ").append(number(0, 4)); break;
                case 6: s.append("wind ").append(number(0, 7)).append(blank()).append(number(0, 9)); break;
                case 7: s.append("sell ").append(number(0, 19)); break;
                case 8: s.append("quench ").append(number(0, 19)); break;
                case 9: case 10: s.append("wait ").append(number(1, random.nextInt(9) == 0 ? 120 : 6)); break;
                default:
                    if (depth < 2 || random.nextInt(6) == 0) {
                        s.append("repeat ").append(number(1, 20)).append('(');
                        if (depth < 3) {
                            commands(s, upTo(4), depth + 1);
                        }
                        s.append(')');
                    } else {
                        s.append("rotate");
                    }
            }
            s.append(';');
        }
    }

    private String spoiled(String text) {
        StringBuilder s = new StringBuilder(text);
        int at = upTo(s.length());
        String[] pieces = {";", "(", ")", " ", "a", "0", "floor", "load", "repeat", "wait", "\u0001", "Z", "\u0080", "\t"};
        switch (random.nextInt(3)) {
            case 0:
                s.setLength(at);
                break;
            case 1:
                s.insert(at, pieces[random.nextInt(pieces.length)]);
                break;
            default:
                s.delete(at, Math.min(s.length(), at + 1 + upTo(3)));
        }
        return s.toString();
    }

    private void look() {
        see("errorCode", oast::errorCode, () -> model.code);
        see("errorPosition", oast::errorPosition, () -> model.position);
        see("minute", oast::minute, () -> model.now.minute);
        see("heat", oast::heat, () -> model.now.heat);
        see("gear", oast::gear, () -> model.now.gear);
        see("windDirection", oast::windDirection, () -> model.now.windDirection);
        see("windStrength", oast::windStrength, () -> model.now.windStrength);
        see("vaneDirection", oast::vaneDirection, () -> model.now.vane);
        see("deviation", oast::deviation, () -> model.now.deviation());
        see("draught", oast::draught, () -> model.now.draught());
        see("floorCount", oast::floorCount, () -> model.now.floors.size());
        see("warmestFloor", oast::warmestFloor, model::warmestFloor);
        see("sackCount", oast::sackCount, () -> model.now.sacks.size());
        see("smoulderingSacks", oast::smoulderingSacks, model::smoulderingSacks);
        see("hottestSack", oast::hottestSack, model::hottestSack);
        see("loadedMass", oast::loadedMass, () -> model.now.loaded);
        see("soldMass", oast::soldMass, () -> model.now.sold);
        see("burntMass", oast::burntMass, () -> model.now.burnt);
        see("income", oast::income, () -> model.now.income);
        see("dampedHeat", oast::dampedHeat, () -> model.now.damped);
        see("vaneSteps", oast::vaneSteps, () -> model.now.vaneSteps);
        see("meanMoisture", oast::meanMoisture, model::meanMoisture);
        see("loadedShare", oast::loadedShare, model::loadedShare);
        see("contradictions", oast::contradictions, () -> 0);
        see("undoCount", oast::undoCount, () -> model.undo.size());
        for (int i = -1; i <= 4; i++) {
            lookAtFloor(i);
        }
        for (int i = -1; i <= model.now.sacks.size(); i++) {
            lookAtSack(i);
        }
        int index = about(0, Math.max(0, model.output.length() - 1));
        see("outputByte " + index, () -> oast.outputByte(index), () -> model.outputByte(index));
        if (random.nextInt(30) == 0 && calls + model.output.length() < CALLS) {
            calls += model.output.length();
            both("output", () -> Oasts.output(oast), () -> model.output);
        }
    }

    private void lookAtFloor(int f) {
        see("limitOf " + f, () -> oast.limitOf(f), () -> model.limitOf(f));
        see("temperatureOf " + f, () -> oast.temperatureOf(f), () -> model.temperatureOf(f));
        see("hasLoad " + f, () -> oast.hasLoad(f), () -> model.hasLoad(f));
        see("massOn " + f, () -> oast.massOn(f), () -> model.massOn(f));
        see("moistureOn " + f, () -> oast.moistureOn(f), () -> model.moistureOn(f));
        see("scorchOn " + f, () -> oast.scorchOn(f), () -> model.scorchOn(f));
        see("isDry " + f, () -> oast.isDry(f), () -> model.isDry(f));
        see("dryingOn " + f, () -> oast.dryingOn(f), () -> model.dryingOn(f));
        see("obstacleToLower " + f, () -> oast.obstacleToLower(f), () -> model.obstacleToLower(f));
        if (random.nextInt(3) == 0) {
            int minutes = about(0, 300);
            see("temperatureAfter " + f + " " + minutes, () -> oast.temperatureAfter(f, minutes),
                    () -> model.temperatureAfter(f, minutes));
            see("minutesUntilDry " + f, () -> oast.minutesUntilDry(f), () -> model.minutesUntilDry(f));
        }
    }

    private void lookAtSack(int s) {
        see("sackState " + s, () -> oast.sackState(s), () -> model.sackState(s));
        see("sackMass " + s, () -> oast.sackMass(s), () -> model.sack(s).load.mass);
        see("sackMoisture " + s, () -> oast.sackMoisture(s), () -> model.sack(s).load.moisture);
        see("sackTemperature " + s, () -> oast.sackTemperature(s), () -> model.sack(s).temperature);
        see("isSmouldering " + s, () -> oast.isSmouldering(s), () -> model.sack(s).smoulders());
        see("qualityOf " + s, () -> oast.qualityOf(s), () -> model.sack(s).quality());
        see("priceOf " + s, () -> oast.priceOf(s), () -> model.sack(s).price());
        see("minutesUntilBurnt " + s, () -> oast.minutesUntilBurnt(s), () -> model.minutesUntilBurnt(s));
    }
}
