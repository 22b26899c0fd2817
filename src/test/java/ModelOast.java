import java.util.ArrayDeque;
import java.util.ArrayList;
import java.util.List;
import java.util.NoSuchElementException;

/**
 * The document once more, written as near to its words as possible and without care for speed or
 * memory, to be compared with HopOast.
 */
final class ModelOast {
    static final class Load {
        int mass, moisture, scorch;
        Load(int mass, int moisture, int scorch) { this.mass = mass; this.moisture = moisture; this.scorch = scorch; }
    }

    static final class Floor {
        int limit;
        Load load;
        Floor(int limit) { this.limit = limit; }
    }

    static final class Sack {
        Load load;
        int temperature;
        String state = "stored";
        Sack(Load load, int temperature) { this.load = load; this.temperature = temperature; }
        boolean stored() { return state.equals("stored"); }
        boolean smoulders() { return stored() && load.moisture < 60 && temperature >= 50; }
        int quality() {
            int q = 100 - load.scorch;
            if (load.moisture > 80) q -= Math.floorDiv(load.moisture - 80, 2);
            return Math.max(q, 0);
        }
        int price() { return Math.floorDiv(load.mass * quality(), 10); }
    }

    static final class State {
        int minute, heat, gear, windDirection, windStrength, vane;
        List<Floor> floors = new ArrayList<>();
        List<Sack> sacks = new ArrayList<>();
        int loaded, sold, burnt, income, damped, vaneSteps;

        State copy() {
            State s = new State();
            s.minute = minute; s.heat = heat; s.gear = gear;
            s.windDirection = windDirection; s.windStrength = windStrength; s.vane = vane;
            for (Floor f : floors) {
                Floor g = new Floor(f.limit);
                if (f.load != null) g.load = new Load(f.load.mass, f.load.moisture, f.load.scorch);
                s.floors.add(g);
            }
            for (Sack k : sacks) {
                Sack c = new Sack(new Load(k.load.mass, k.load.moisture, k.load.scorch), k.temperature);
                c.state = k.state;
                s.sacks.add(c);
            }
            s.loaded = loaded; s.sold = sold; s.burnt = burnt; s.income = income;
            s.damped = damped; s.vaneSteps = vaneSteps;
            return s;
        }

        int deviation() {
            int clockwise = 0;
            while ((vane + clockwise) % 8 != windDirection) clockwise++;
            int other = 0;
            while ((vane - other + 8) % 8 != windDirection) other++;
            return Math.min(clockwise, other);
        }

        int draught() {
            int part = 0;
            switch (deviation()) {
                case 0: part = windStrength; break;
                case 1: part = windStrength / 2; break;
                case 4: part = -(windStrength / 2); break;
                default: part = 0;
            }
            return Math.max(0, 2 * gear + part);
        }

        int warmth(int floor) {
            int w = heat - 4 * floor - draught();
            for (int i = 0; i < floor; i++) {
                if (floors.get(i).load != null) w -= floors.get(i).load.moisture / 100;
            }
            return w;
        }

        int temperature(int floor) {
            int w = warmth(floor);
            return w < 0 ? 15 : 15 + w;
        }

        boolean tooHot() {
            for (int i = 0; i < floors.size(); i++) if (temperature(i) > floors.get(i).limit) return true;
            return false;
        }

        void damper() {
            while (tooHot()) { heat--; damped++; }
        }

        int drying(int floor) {
            return (temperature(floor) - 15) * (1 + draught()) / 10;
        }

        int minutePasses() {
            minute++;
            if (minute % 10 == 0 && heat != 0) heat--;
            if (windStrength >= 2 && deviation() != 0) {
                int before = deviation();
                int old = vane;
                vane = (old + 1) % 8;
                if (deviation() > before) vane = (old + 7) % 8;
                vaneSteps++;
            }
            int[] t = new int[floors.size()];
            int[] d = new int[floors.size()];
            for (int i = 0; i < t.length; i++) { t[i] = temperature(i); d[i] = drying(i); }
            for (int i = 0; i < t.length; i++) {
                Load l = floors.get(i).load;
                if (l == null) continue;
                l.moisture = Math.max(0, l.moisture - d[i]);
                if (t[i] > 60 && l.moisture < 200 && l.scorch != 100) l.scorch++;
            }
            int gone = 0;
            for (int i = 0; i < sacks.size(); i++) {
                Sack k = sacks.get(i);
                if (!k.stored()) continue;
                if (k.smoulders()) k.temperature += 2;
                else k.temperature = Math.max(15, k.temperature - 1);
                if (k.temperature >= 100) {
                    k.state = "burnt";
                    gone++;
                    burnt += k.load.mass;
                    for (int j : new int[] {i - 1, i + 1}) {
                        if (j >= 0 && j < sacks.size() && sacks.get(j).stored()) sacks.get(j).temperature += 10;
                    }
                }
            }
            damper();
            return gone;
        }

        boolean dry(int floor) { return floors.get(floor).load != null && floors.get(floor).load.moisture <= 100; }

        int obstacle(int floor) {
            if (floors.get(floor).load == null) return 1;
            if (floor > 0) return floors.get(floor - 1).load != null ? 2 : 0;
            if (!dry(0)) return 3;
            if (sacks.size() == 20) return 4;
            return 0;
        }

        void lowerNow(int floor) {
            if (floor == 0) {
                sacks.add(new Sack(floors.get(0).load, temperature(0)));
            } else {
                floors.get(floor - 1).load = floors.get(floor).load;
            }
            floors.get(floor).load = null;
        }

        int loads() {
            int n = 0;
            for (Floor f : floors) if (f.load != null) n++;
            return n;
        }
    }

    static final class Stop extends Exception {
        private static final long serialVersionUID = 1L;
        final int code, position;
        Stop(int code, int position) { super(null, null, false, false); this.code = code; this.position = position; }
    }

    static final class Token {
        String text;
        int position;
        boolean number() { return !text.isEmpty() && Character.isDigit(text.charAt(0)) && text.charAt(0) < 128; }
    }

    static final class Command {
        String word;
        int a, b;
        List<Command> body;
    }

    /** Cuts the text at once into all tokens, the last of which is empty, and then reads them. */
    static final class Reader {
        final List<Token> tokens = new ArrayList<>();
        int next;
        int words;

        Reader(String text) {
            java.util.regex.Matcher m = java.util.regex.Pattern.compile("[ \n]+|([a-z]+|[0-9]+|.)",
                    java.util.regex.Pattern.DOTALL).matcher(text);
            while (m.find()) {
                if (m.group(1) != null) {
                    Token t = new Token();
                    t.text = m.group(1);
                    t.position = m.start();
                    tokens.add(t);
                }
            }
            Token end = new Token();
            end.text = "";
            end.position = text.length();
            tokens.add(end);
        }

        Token peek() { return tokens.get(next); }
        boolean at(String s) { return peek().text.equals(s); }
        Stop error(int code) { return new Stop(code, peek().position); }
        void expect(String s) throws Stop { if (!at(s)) throw error(1); next++; }

        int number(int low, int high, State taken) throws Stop {
            if (!peek().number()) throw error(1);
            java.math.BigInteger value = new java.math.BigInteger(peek().text);
            if (value.compareTo(java.math.BigInteger.valueOf(low)) < 0
                    || value.compareTo(java.math.BigInteger.valueOf(high)) > 0) throw error(2);
            if (taken != null && taken.floors.get(value.intValue()).load != null) throw error(3);
            next++;
            return value.intValue();
        }

        State setup() throws Stop {
            State s = new State();
            expect("oast");
            s.heat = number(0, 90, null);
            s.gear = number(0, 4, null);
            s.windDirection = number(0, 7, null);
            s.windStrength = number(0, 9, null);
            s.vane = number(0, 7, null);
            expect(";");
            do {
                if (at("floor") && s.floors.size() == 4) throw error(4);
                expect("floor");
                s.floors.add(new Floor(number(40, 90, null)));
                expect(";");
            } while (at("floor"));
            while (at("load")) {
                expect("load");
                int floor = number(0, s.floors.size() - 1, s);
                int mass = number(1, 99, null);
                int moisture = number(0, 800, null);
                expect(";");
                s.floors.get(floor).load = new Load(mass, moisture, 0);
                s.loaded += mass;
            }
            expect("");
            s.damper();
            s.damped = 0;
            return s;
        }

        List<Command> script(int depth) throws Stop {
            List<Command> list = new ArrayList<>();
            while (!at(depth == 0 ? "" : ")")) {
                Command c = new Command();
                c.word = peek().text;
                if (!List.of("load", "lower", "rotate", "fire", "gear", "wind", "sell", "quench", "wait", "repeat")
                        .contains(c.word)) throw error(1);
                if (++words > 30) throw error(4);
                next++;
                switch (c.word) {
                    case "load": c.a = number(1, 99, null); c.b = number(0, 800, null); break;
                    case "lower": c.a = number(0, 3, null); break;
                    case "rotate": break;
                    case "fire": c.a = number(0, 90, null); break;
                    case "gear": c.a = number(0, 4, null); break;
                    case "wind": c.a = number(0, 7, null); c.b = number(0, 9, null); break;
                    case "sell": case "quench": c.a = number(0, 19, null); break;
                    case "wait": c.a = number(1, 120, null); break;
                    default:
                        c.a = number(1, 20, null);
                        if (at("(") && depth == 2) throw error(4);
                        expect("(");
                        c.body = script(depth + 1);
                        expect(")");
                }
                expect(";");
                list.add(c);
            }
            return list;
        }
    }

    State now;
    final StringBuilder text = new StringBuilder();
    String output = "";
    int code;
    int position = -1;
    ArrayDeque<State> undo = new ArrayDeque<>();
    State[] slots = new State[2];
    boolean inScript;

    ModelOast() {
        text.append("oast 60 1 2 6 7; floor 70; floor 60; floor 55; load 0 20 150; load 1 30 420;");
        load();
    }

    private void record() {
        if (inScript) return;
        undo.addLast(now.copy());
        if (undo.size() > 8) undo.removeFirst();
    }

    private Floor floor(int i) {
        if (i < 0 || i >= now.floors.size()) throw new IndexOutOfBoundsException();
        return now.floors.get(i);
    }

    private Load loadOn(int i) {
        Load l = floor(i).load;
        if (l == null) throw new NoSuchElementException();
        return l;
    }

    Sack sack(int i) {
        if (i < 0 || i >= now.sacks.size()) throw new IndexOutOfBoundsException();
        return now.sacks.get(i);
    }

    private static void range(int v, int low, int high) {
        if (v < low || v > high) throw new IllegalArgumentException();
    }

    int append(int... fours) {
        StringBuilder added = new StringBuilder();
        for (int four : fours) {
            for (byte b : java.nio.ByteBuffer.allocate(4).putInt(four).array()) {
                if (b != 0) added.append((char) (b & 255));
            }
        }
        if (text.length() + added.length() > 800) throw new IllegalStateException();
        text.append(added);
        return text.length();
    }

    int truncate(int length) {
        range(length, 0, text.length());
        text.setLength(length);
        return length;
    }

    int load() {
        code = 0;
        position = -1;
        try {
            now = new Reader(text.toString()).setup();
            undo.clear();
            slots = new State[2];
        } catch (Stop e) {
            code = e.code;
            position = e.position;
        }
        text.setLength(0);
        return code;
    }

    int runScript() {
        code = 0;
        position = -1;
        String source = text.toString();
        text.setLength(0);
        List<Command> list;
        try {
            list = new Reader(source).script(0);
        } catch (Stop e) {
            code = e.code;
            position = e.position;
            return -1;
        }
        record();
        inScript = true;
        int[] done = {0};
        execute(list, done);
        inScript = false;
        return done[0];
    }

    private boolean execute(List<Command> list, int[] done) {
        for (Command c : list) {
            if (c.body != null) {
                for (int i = 0; i < c.a; i++) if (!execute(c.body, done)) return false;
                continue;
            }
            if (done[0] == 40) return false;
            try {
                switch (c.word) {
                    case "load": putLoad(c.a, c.b); break;
                    case "lower": lower(c.a); break;
                    case "rotate": rotate(); break;
                    case "fire": setHeat(c.a); break;
                    case "gear": setGear(c.a); break;
                    case "wind": setWind(c.a, c.b); break;
                    case "sell": sell(c.a); break;
                    case "quench": quench(c.a); break;
                    default: advance(c.a);
                }
            } catch (RuntimeException e) {
                return false;
            }
            done[0]++;
        }
        return true;
    }

    int limitOf(int f) { return floor(f).limit; }
    int temperatureOf(int f) { floor(f); return now.temperature(f); }
    boolean hasLoad(int f) { return floor(f).load != null; }
    int massOn(int f) { return floor(f).load == null ? 0 : floor(f).load.mass; }
    int moistureOn(int f) { return loadOn(f).moisture; }
    int scorchOn(int f) { return loadOn(f).scorch; }
    boolean isDry(int f) { floor(f); return now.dry(f); }
    int dryingOn(int f) {
        if (floor(f).load == null) return 0;
        return Math.min(now.drying(f), floor(f).load.moisture);
    }
    int warmestFloor() {
        int best = 0;
        for (int i = 0; i < now.floors.size(); i++) if (now.temperature(i) > now.temperature(best)) best = i;
        return best;
    }
    int obstacleToLower(int f) { floor(f); return now.obstacle(f); }
    int sackState(int s) { return List.of("stored", "sold", "burnt").indexOf(sack(s).state); }
    int smoulderingSacks() {
        int n = 0;
        for (Sack k : now.sacks) if (k.smoulders()) n++;
        return n;
    }
    int hottestSack() {
        int best = -1;
        int most = -1;
        for (int i = 0; i < now.sacks.size(); i++) {
            Sack k = now.sacks.get(i);
            if (k.stored() && k.temperature > most) { best = i; most = k.temperature; }
        }
        return best;
    }
    double meanMoisture() {
        int sum = 0;
        for (Floor f : now.floors) if (f.load != null) sum += f.load.moisture;
        return now.loads() == 0 ? 0.0 : (double) sum / (double) now.loads();
    }
    float loadedShare() { return (float) now.loads() / (float) now.floors.size(); }

    int temperatureAfter(int f, int minutes) {
        floor(f);
        range(minutes, 0, 300);
        State s = now.copy();
        for (int i = 0; i < minutes; i++) s.minutePasses();
        return s.temperature(f);
    }

    int minutesUntilDry(int f) {
        loadOn(f);
        State s = now.copy();
        for (int i = 0; i <= 300; i++) {
            if (s.dry(f)) return i;
            s.minutePasses();
        }
        return -1;
    }

    int minutesUntilBurnt(int k) {
        sack(k);
        State s = now.copy();
        for (int i = 0; i <= 300; i++) {
            if (s.sacks.get(k).state.equals("burnt")) return i;
            s.minutePasses();
        }
        return -1;
    }

    int putLoad(int mass, int moisture) {
        range(mass, 1, 99);
        range(moisture, 0, 800);
        Floor top = now.floors.get(now.floors.size() - 1);
        if (top.load != null) throw new IllegalStateException();
        record();
        top = now.floors.get(now.floors.size() - 1);
        top.load = new Load(mass, moisture, 0);
        now.loaded += mass;
        now.damper();
        return now.loads();
    }

    int lower(int f) {
        floor(f);
        if (now.obstacle(f) != 0) throw new IllegalStateException();
        record();
        int moisture = floor(f).load.moisture;
        now.lowerNow(f);
        now.damper();
        return moisture;
    }

    int rotate() {
        record();
        int n = 0;
        for (int i = 0; i < now.floors.size(); i++) {
            if (now.obstacle(i) == 0) { now.lowerNow(i); n++; }
        }
        now.damper();
        return n;
    }

    int setHeat(int heat) {
        range(heat, 0, 90);
        record();
        now.heat = heat;
        now.damper();
        return now.heat;
    }

    int setGear(int gear) {
        range(gear, 0, 4);
        record();
        int old = now.gear;
        now.gear = gear;
        now.damper();
        return old;
    }

    int setWind(int direction, int strength) {
        range(direction, 0, 7);
        range(strength, 0, 9);
        record();
        now.windDirection = direction;
        now.windStrength = strength;
        now.damper();
        return now.draught();
    }

    int sell(int s) {
        if (!sack(s).stored() || sack(s).smoulders()) throw new IllegalStateException();
        record();
        sack(s).state = "sold";
        now.sold += sack(s).load.mass;
        now.income += sack(s).price();
        now.damper();
        return sack(s).price();
    }

    int quench(int s) {
        if (!sack(s).stored()) throw new IllegalStateException();
        record();
        int old = sack(s).temperature;
        sack(s).temperature = 15;
        sack(s).load.moisture = Math.min(800, sack(s).load.moisture + 100);
        now.damper();
        return old;
    }

    int advance(int minutes) {
        range(minutes, 1, 120);
        if (now.minute + minutes > 9999) throw new IllegalStateException();
        record();
        int n = 0;
        for (int i = 0; i < minutes; i++) n += now.minutePasses();
        return n;
    }

    int writeFloors() {
        List<String> parts = new ArrayList<>();
        for (int i = 0; i < now.floors.size(); i++) {
            Load l = now.floors.get(i).load;
            parts.add(now.temperature(i) + (l == null ? "." : ":" + l.moisture));
        }
        output = String.join(" ", parts);
        return output.length();
    }

    int writeSacks() {
        List<String> parts = new ArrayList<>();
        for (Sack k : now.sacks) {
            parts.add(k.load.mass + (k.smoulders() ? "*" : k.state.equals("sold") ? "$"
                    : k.state.equals("burnt") ? "#" : ""));
        }
        output = String.join(" ", parts);
        return output.length();
    }

    int outputByte(int i) { return i < 0 || i >= output.length() ? -1 : output.charAt(i); }

    int undo() {
        if (undo.isEmpty()) throw new IllegalStateException();
        now = undo.removeLast();
        return undo.size();
    }

    private void slot(int s) { if (s < 0 || s > 1) throw new IndexOutOfBoundsException(); }

    int save(int s) {
        slot(s);
        slots[s] = now.copy();
        return now.minute;
    }

    int restore(int s) {
        slot(s);
        if (slots[s] == null) throw new IllegalStateException();
        now = slots[s].copy();
        undo.clear();
        return now.minute;
    }
}
