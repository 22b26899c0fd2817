import java.util.NoSuchElementException;

/** A simulator of an oast house, in which hops are dried on floors above a fire. */
public final class HopOast {
    public static final int NONE = -1;
    public static final int SYNTAX = 1;
    public static final int OUT_OF_RANGE = 2;
    public static final int FLOOR_TAKEN = 3;
    public static final int TOO_MANY = 4;
    public static final int NO_OBSTACLE = 0;
    public static final int NO_LOAD = 1;
    public static final int BELOW_TAKEN = 2;
    public static final int NOT_DRY = 3;
    public static final int NO_SACK = 4;
    public static final int STORED = 0;
    public static final int SOLD = 1;
    public static final int BURNT = 2;

    private static final String FIRST_SETUP =
            "oast 60 1 2 6 7; floor 70; floor 60; floor 55; load 0 20 150; load 1 30 420;";

    private static final int MAX_TEXT = 800;
    private static final int MAX_OUTPUT = 100;
    private static final int MAX_FLOORS = 4;
    private static final int MAX_SACKS = 20;
    private static final int MAX_UNDO = 8;
    private static final int SLOTS = 2;
    private static final int MAX_COMMANDS = 30;
    private static final int MAX_EXECUTED = 40;
    private static final int MAX_NESTING = 2;
    private static final int MAX_FORECAST = 300;
    private static final int LAST_MINUTE = 9999;

    private static final int DIRECTIONS = 8;
    private static final int OPPOSITE = 4;
    private static final int MAX_HEAT = 90;
    private static final int MAX_GEAR = 4;
    private static final int MAX_STRENGTH = 9;
    private static final int MIN_LIMIT = 40;
    private static final int MAX_LIMIT = 90;
    private static final int MAX_MASS = 99;
    private static final int MAX_MOISTURE = 800;
    private static final int MAX_SCORCH = 100;
    private static final int MAX_WAIT = 120;
    private static final int MAX_TIMES = 20;
    private static final int DRY = 100;
    private static final int COLD = 15;

    private static final int END = 0;
    private static final int WORD = 1;
    private static final int NUMBER = 2;
    private static final int MARK = 3;
    private static final int INVALID = 4;

    private static final int DO_LOAD = 0;
    private static final int DO_LOWER = 1;
    private static final int DO_ROTATE = 2;
    private static final int DO_FIRE = 3;
    private static final int DO_GEAR = 4;
    private static final int DO_WIND = 5;
    private static final int DO_SELL = 6;
    private static final int DO_QUENCH = 7;
    private static final int DO_WAIT = 8;
    private static final int DO_REPEAT = 9;

    private final House house;
    private final House forecast;
    private final House draft;
    private final History history;
    private final Text text;
    private final Tokens tokens;
    private final SetupReader setupReader;
    private final Script script;
    private final ScriptReader scriptReader;
    private final Output output;

    public HopOast() {
        house = new House();
        forecast = new House();
        draft = new House();
        history = new History();
        text = new Text();
        tokens = new Tokens(text);
        setupReader = new SetupReader(tokens, draft);
        script = new Script();
        scriptReader = new ScriptReader(tokens, script);
        output = new Output();
        for (int i = 0; i < FIRST_SETUP.length(); i++) {
            text.add(FIRST_SETUP.charAt(i));
        }
        beginHouse();
    }

    // ---- texts

    public int append(int a, int b, int c, int d, int e) throws IllegalStateException {
        int added = visibleBytes(a) + visibleBytes(b) + visibleBytes(c) + visibleBytes(d) + visibleBytes(e);
        if (text.length + added > MAX_TEXT) {
            throw new IllegalStateException("the buffer would hold more than 800 bytes");
        }
        text.addFour(a);
        text.addFour(b);
        text.addFour(c);
        text.addFour(d);
        text.addFour(e);
        return text.length;
    }

    public int truncate(int length) throws IllegalArgumentException {
        if (!within(length, 0, text.length)) {
            throw new IllegalArgumentException("length is out of range");
        }
        text.length = length;
        return length;
    }

    public int load() {
        beginHouse();
        return tokens.code;
    }

    public int runScript() {
        scriptReader.read();
        text.length = 0;
        if (!tokens.sound()) {
            return NONE;
        }
        history.record(house);
        int executed = 0;
        while (executed < script.length && script.canPerform(executed, house)) {
            script.perform(executed, house);
            executed++;
        }
        return executed;
    }

    public int errorCode() {
        return tokens.code;
    }

    public int errorPosition() {
        return tokens.position;
    }

    // ---- fire, wind and draught

    public int minute() {
        return house.minute;
    }

    public int heat() {
        return house.heat;
    }

    public int gear() {
        return house.air.gear;
    }

    public int windDirection() {
        return house.air.windDirection;
    }

    public int windStrength() {
        return house.air.windStrength;
    }

    public int vaneDirection() {
        return house.air.vaneDirection;
    }

    public int deviation() {
        return house.air.offset();
    }

    public int draught() {
        return house.air.pull();
    }

    // ---- floors

    public int floorCount() {
        return house.floors.count;
    }

    public int limitOf(int floor) throws IndexOutOfBoundsException {
        requireFloor(floor);
        return house.floors.limit[floor];
    }

    public int temperatureOf(int floor) throws IndexOutOfBoundsException {
        requireFloor(floor);
        return house.temperatureNow(floor);
    }

    public boolean hasLoad(int floor) throws IndexOutOfBoundsException {
        requireFloor(floor);
        return house.floors.isTaken(floor);
    }

    public int massOn(int floor) throws IndexOutOfBoundsException {
        requireFloor(floor);
        return house.floors.mass[floor];
    }

    public int moistureOn(int floor) throws IndexOutOfBoundsException, NoSuchElementException {
        requireFloor(floor);
        requireLoad(floor);
        return house.floors.moisture[floor];
    }

    public int scorchOn(int floor) throws IndexOutOfBoundsException, NoSuchElementException {
        requireFloor(floor);
        requireLoad(floor);
        return house.floors.scorch[floor];
    }

    public boolean isDry(int floor) throws IndexOutOfBoundsException {
        requireFloor(floor);
        return house.floors.holdsDryLoad(floor);
    }

    public int dryingOn(int floor) throws IndexOutOfBoundsException {
        requireFloor(floor);
        return house.dryingNow(floor);
    }

    public int warmestFloor() {
        return house.warmest();
    }

    public int obstacleToLower(int floor) throws IndexOutOfBoundsException {
        requireFloor(floor);
        return house.obstacle(floor);
    }

    // ---- sacks

    public int sackCount() {
        return house.sacks.count;
    }

    public int sackState(int sack) throws IndexOutOfBoundsException {
        requireSack(sack);
        return house.sacks.state[sack];
    }

    public int sackMass(int sack) throws IndexOutOfBoundsException {
        requireSack(sack);
        return house.sacks.mass[sack];
    }

    public int sackMoisture(int sack) throws IndexOutOfBoundsException {
        requireSack(sack);
        return house.sacks.moisture[sack];
    }

    public int sackTemperature(int sack) throws IndexOutOfBoundsException {
        requireSack(sack);
        return house.sacks.temperature[sack];
    }

    public boolean isSmouldering(int sack) throws IndexOutOfBoundsException {
        requireSack(sack);
        return house.sacks.smoulders(sack);
    }

    public int qualityOf(int sack) throws IndexOutOfBoundsException {
        requireSack(sack);
        return house.sacks.quality(sack);
    }

    public int priceOf(int sack) throws IndexOutOfBoundsException {
        requireSack(sack);
        return house.sacks.price(sack);
    }

    public int smoulderingSacks() {
        return house.sacks.countSmouldering();
    }

    public int hottestSack() {
        return house.sacks.hottest();
    }

    // ---- statistics

    public int loadedMass() {
        return house.loadedMass;
    }

    public int soldMass() {
        return house.sacks.soldMass;
    }

    public int burntMass() {
        return house.sacks.burntMass;
    }

    public int income() {
        return house.sacks.income;
    }

    public int dampedHeat() {
        return house.dampedHeat;
    }

    public int vaneSteps() {
        return house.vaneSteps;
    }

    public double meanMoisture() {
        int loads = house.floors.countTaken();
        return loads == 0 ? 0.0 : (double) house.floors.sumOfMoistures() / (double) loads;
    }

    public float loadedShare() {
        int floors = house.floors.count;
        return floors == 0 ? 0.0f : (float) house.floors.countTaken() / (float) floors;
    }

    public int contradictions() {
        int massLost = house.loadedMass - house.floors.sumOfMasses() - house.sacks.sumOfMasses();
        int massGone = house.sacks.soldMass + house.sacks.burntMass - house.sacks.sumOfMassesGone();
        return house.countTooHot() + Math.abs(massLost) + Math.abs(massGone) + house.countWarmthBreaks();
    }

    // ---- forecasts

    public int temperatureAfter(int floor, int minutes)
            throws IndexOutOfBoundsException, IllegalArgumentException {
        requireFloor(floor);
        if (!within(minutes, 0, MAX_FORECAST)) {
            throw new IllegalArgumentException("minutes is out of range");
        }
        forecast.copyFrom(house);
        forecast.passMinutes(minutes);
        return forecast.temperatureNow(floor);
    }

    public int minutesUntilDry(int floor) throws IndexOutOfBoundsException, NoSuchElementException {
        requireFloor(floor);
        requireLoad(floor);
        forecast.copyFrom(house);
        for (int minutes = 0; minutes <= MAX_FORECAST; minutes++) {
            if (forecast.floors.holdsDryLoad(floor)) {
                return minutes;
            }
            forecast.passMinutes(1);
        }
        return NONE;
    }

    public int minutesUntilBurnt(int sack) throws IndexOutOfBoundsException {
        requireSack(sack);
        forecast.copyFrom(house);
        for (int minutes = 0; minutes <= MAX_FORECAST; minutes++) {
            if (forecast.sacks.state[sack] == BURNT) {
                return minutes;
            }
            forecast.passMinutes(1);
        }
        return NONE;
    }

    // ---- changes

    public int putLoad(int mass, int moisture) throws IllegalArgumentException, IllegalStateException {
        if (!within(mass, 1, MAX_MASS) || !within(moisture, 0, MAX_MOISTURE)) {
            throw new IllegalArgumentException("mass or moisture is out of range");
        }
        if (!house.canPut()) {
            throw new IllegalStateException("there is a load on the highest floor");
        }
        history.record(house);
        house.putOnTop(mass, moisture);
        return house.floors.countTaken();
    }

    public int lower(int floor) throws IndexOutOfBoundsException, IllegalStateException {
        requireFloor(floor);
        if (house.obstacle(floor) != NO_OBSTACLE) {
            throw new IllegalStateException("something prevents the lowering");
        }
        history.record(house);
        int moisture = house.floors.moisture[floor];
        house.lowerOne(floor);
        return moisture;
    }

    public int rotate() {
        history.record(house);
        return house.lowerAll();
    }

    public int setHeat(int heat) throws IllegalArgumentException {
        if (!within(heat, 0, MAX_HEAT)) {
            throw new IllegalArgumentException("heat is out of range");
        }
        history.record(house);
        house.stoke(heat);
        return house.heat;
    }

    public int setGear(int gear) throws IllegalArgumentException {
        if (!within(gear, 0, MAX_GEAR)) {
            throw new IllegalArgumentException("gear is out of range");
        }
        history.record(house);
        int previous = house.air.gear;
        house.shiftGear(gear);
        return previous;
    }

    public int setWind(int direction, int strength) throws IllegalArgumentException {
        if (!within(direction, 0, DIRECTIONS - 1) || !within(strength, 0, MAX_STRENGTH)) {
            throw new IllegalArgumentException("direction or strength is out of range");
        }
        history.record(house);
        house.changeWind(direction, strength);
        return house.air.pull();
    }

    public int sell(int sack) throws IndexOutOfBoundsException, IllegalStateException {
        requireSack(sack);
        if (!house.sacks.canSell(sack)) {
            throw new IllegalStateException("the sack is not stored, or it smoulders");
        }
        history.record(house);
        house.sacks.giveAway(sack);
        return house.sacks.price(sack);
    }

    public int quench(int sack) throws IndexOutOfBoundsException, IllegalStateException {
        requireSack(sack);
        if (!house.sacks.isStored(sack)) {
            throw new IllegalStateException("the sack is not stored");
        }
        history.record(house);
        int temperature = house.sacks.temperature[sack];
        house.sacks.wet(sack);
        return temperature;
    }

    public int advance(int minutes) throws IllegalArgumentException, IllegalStateException {
        if (!within(minutes, 1, MAX_WAIT)) {
            throw new IllegalArgumentException("minutes is out of range");
        }
        if (!house.canWait(minutes)) {
            throw new IllegalStateException("the minute would be greater than 9999");
        }
        history.record(house);
        return house.passMinutes(minutes);
    }

    // ---- output, undo and slots

    public int writeFloors() {
        output.length = 0;
        for (int floor = 0; floor < house.floors.count; floor++) {
            output.separate();
            output.addNumber(house.temperatureNow(floor));
            if (house.floors.isTaken(floor)) {
                output.add(':');
                output.addNumber(house.floors.moisture[floor]);
            } else {
                output.add('.');
            }
        }
        return output.length;
    }

    public int writeSacks() {
        output.length = 0;
        for (int sack = 0; sack < house.sacks.count; sack++) {
            output.separate();
            output.addNumber(house.sacks.mass[sack]);
            if (house.sacks.smoulders(sack)) {
                output.add('*');
            } else if (house.sacks.state[sack] == SOLD) {
                output.add('$');
            } else if (house.sacks.state[sack] == BURNT) {
                output.add('#');
            }
        }
        return output.length;
    }

    public int outputByte(int index) {
        return output.at(index);
    }

    public int undoCount() {
        return history.count;
    }

    public int undo() throws IllegalStateException {
        if (history.count == 0) {
            throw new IllegalStateException("no change can be undone");
        }
        history.takeBack(house);
        return history.count;
    }

    public int save(int slot) throws IndexOutOfBoundsException {
        requireSlot(slot);
        history.fill(slot, house);
        return house.minute;
    }

    public int restore(int slot) throws IndexOutOfBoundsException, IllegalStateException {
        requireSlot(slot);
        House kept = history.inSlot(slot);
        if (kept == null) {
            throw new IllegalStateException("the slot is empty");
        }
        house.copyFrom(kept);
        history.forgetChanges();
        return house.minute;
    }

    // ---- helpers of the face

    private void requireFloor(int floor) {
        if (!house.floors.exists(floor)) {
            throw new IndexOutOfBoundsException("there is no such floor");
        }
    }

    private void requireLoad(int floor) {
        if (!house.floors.isTaken(floor)) {
            throw new NoSuchElementException("there is no load on the floor");
        }
    }

    private void requireSack(int sack) {
        if (!house.sacks.exists(sack)) {
            throw new IndexOutOfBoundsException("there is no such sack");
        }
    }

    private void requireSlot(int slot) {
        if (!within(slot, 0, SLOTS - 1)) {
            throw new IndexOutOfBoundsException("there is no such slot");
        }
    }

    private static boolean within(int value, int low, int high) {
        return value >= low && value <= high;
    }

    private static int visibleBytes(int four) {
        int count = 0;
        for (int shift = 24; shift >= 0; shift -= 8) {
            if ((four >>> shift & 255) != 0) {
                count++;
            }
        }
        return count;
    }

    /** The setup is read into a draft, so that an error leaves the house as it is. */
    private void beginHouse() {
        setupReader.read();
        text.length = 0;
        if (tokens.sound()) {
            house.copyFrom(draft);
            history.forgetChanges();
            history.emptySlots();
        }
    }

    private static final class Air {
        int gear;
        int windDirection;
        int windStrength;
        int vaneDirection;

        void copyFrom(Air other) {
            gear = other.gear;
            windDirection = other.windDirection;
            windStrength = other.windStrength;
            vaneDirection = other.vaneDirection;
        }

        /** Steps from the vane to the wind if it turns clockwise. */
        int clockwiseSteps() {
            return (windDirection - vaneDirection + DIRECTIONS) % DIRECTIONS;
        }

        int offset() {
            int steps = clockwiseSteps();
            return steps <= OPPOSITE ? steps : DIRECTIONS - steps;
        }

        int pull() {
            int pull = 2 * gear;
            int offset = offset();
            if (offset == 0) {
                pull += windStrength;
            } else if (offset == 1) {
                pull += windStrength / 2;
            } else if (offset == OPPOSITE) {
                pull -= windStrength / 2;
            }
            return pull < 0 ? 0 : pull;
        }

        /** Returns the number of steps that the vane has turned, 0 or 1. */
        int turnVane() {
            int steps = clockwiseSteps();
            if (windStrength < 2 || steps == 0) {
                return 0;
            }
            int turn = steps <= OPPOSITE ? 1 : DIRECTIONS - 1;
            vaneDirection = (vaneDirection + turn) % DIRECTIONS;
            return 1;
        }
    }

    /** The floors and the loads on them; a floor without a load has the mass 0. */
    private static final class Floors {
        int count;
        final int[] limit = new int[MAX_FLOORS];
        final int[] mass = new int[MAX_FLOORS];
        final int[] moisture = new int[MAX_FLOORS];
        final int[] scorch = new int[MAX_FLOORS];

        void copyFrom(Floors other) {
            count = other.count;
            System.arraycopy(other.limit, 0, limit, 0, MAX_FLOORS);
            System.arraycopy(other.mass, 0, mass, 0, MAX_FLOORS);
            System.arraycopy(other.moisture, 0, moisture, 0, MAX_FLOORS);
            System.arraycopy(other.scorch, 0, scorch, 0, MAX_FLOORS);
        }

        void addFloor(int newLimit) {
            if (count < MAX_FLOORS) {
                limit[count] = newLimit;
                mass[count] = 0;
                count++;
            }
        }

        boolean exists(int floor) {
            return floor >= 0 && floor < count;
        }

        boolean isTaken(int floor) {
            return floor >= 0 && floor < count && mass[floor] > 0;
        }

        boolean holdsDryLoad(int floor) {
            return isTaken(floor) && moisture[floor] <= DRY;
        }

        void place(int floor, int newMass, int newMoisture) {
            if (exists(floor)) {
                mass[floor] = newMass;
                moisture[floor] = newMoisture;
                scorch[floor] = 0;
            }
        }

        void moveDown(int floor) {
            if (floor > 0 && exists(floor)) {
                mass[floor - 1] = mass[floor];
                moisture[floor - 1] = moisture[floor];
                scorch[floor - 1] = scorch[floor];
                mass[floor] = 0;
            }
        }

        /** By how many degrees a load cools the floors above it. */
        int coolingBy(int floor) {
            return floor >= 0 && floor < count && mass[floor] > 0 ? moisture[floor] / 100 : 0;
        }

        int decrease(int floor, int temperature, int pull) {
            if (!isTaken(floor)) {
                return 0;
            }
            int drying = (temperature - COLD) * (1 + pull) / 10;
            return drying < moisture[floor] ? drying : moisture[floor];
        }

        void dryLoad(int floor, int temperature, int pull) {
            if (!isTaken(floor)) {
                return;
            }
            moisture[floor] -= decrease(floor, temperature, pull);
            if (temperature > 60 && moisture[floor] < 200 && scorch[floor] < MAX_SCORCH) {
                scorch[floor]++;
            }
        }

        int countTaken() {
            int taken = 0;
            for (int floor = 0; floor < count; floor++) {
                if (isTaken(floor)) {
                    taken++;
                }
            }
            return taken;
        }

        int sumOfMoistures() {
            int sum = 0;
            for (int floor = 0; floor < count; floor++) {
                if (isTaken(floor)) {
                    sum += moisture[floor];
                }
            }
            return sum;
        }

        int sumOfMasses() {
            int sum = 0;
            for (int floor = 0; floor < count; floor++) {
                sum += mass[floor];
            }
            return sum;
        }
    }

    /** The sacks, whatever became of them. */
    private static final class Sacks {
        int count;
        int soldMass;
        int burntMass;
        int income;
        final int[] state = new int[MAX_SACKS];
        final int[] mass = new int[MAX_SACKS];
        final int[] moisture = new int[MAX_SACKS];
        final int[] scorch = new int[MAX_SACKS];
        final int[] temperature = new int[MAX_SACKS];

        void copyFrom(Sacks other) {
            count = other.count;
            soldMass = other.soldMass;
            burntMass = other.burntMass;
            income = other.income;
            System.arraycopy(other.state, 0, state, 0, MAX_SACKS);
            System.arraycopy(other.mass, 0, mass, 0, MAX_SACKS);
            System.arraycopy(other.moisture, 0, moisture, 0, MAX_SACKS);
            System.arraycopy(other.scorch, 0, scorch, 0, MAX_SACKS);
            System.arraycopy(other.temperature, 0, temperature, 0, MAX_SACKS);
        }

        boolean exists(int sack) {
            return sack >= 0 && sack < count;
        }

        boolean isStored(int sack) {
            return sack >= 0 && sack < count && state[sack] == STORED;
        }

        boolean smoulders(int sack) {
            return isStored(sack) && moisture[sack] < 60 && temperature[sack] >= 50;
        }

        boolean canSell(int sack) {
            return isStored(sack) && !smoulders(sack);
        }

        boolean isFull() {
            return count >= MAX_SACKS;
        }

        void pack(Floors floors, int floorTemperature) {
            if (isFull()) {
                return;
            }
            state[count] = STORED;
            mass[count] = floors.mass[0];
            moisture[count] = floors.moisture[0];
            scorch[count] = floors.scorch[0];
            temperature[count] = floorTemperature;
            count++;
        }

        int quality(int sack) {
            if (!exists(sack)) {
                return 0;
            }
            int excess = moisture[sack] > 80 ? moisture[sack] - 80 : 0;
            int quality = 100 - scorch[sack] - excess / 2;
            return quality < 0 ? 0 : quality;
        }

        int price(int sack) {
            return exists(sack) ? mass[sack] * quality(sack) / 10 : 0;
        }

        void giveAway(int sack) {
            if (exists(sack)) {
                state[sack] = SOLD;
                soldMass += mass[sack];
                income += price(sack);
            }
        }

        void wet(int sack) {
            if (exists(sack)) {
                temperature[sack] = COLD;
                int wetter = moisture[sack] + 100;
                moisture[sack] = wetter < MAX_MOISTURE ? wetter : MAX_MOISTURE;
            }
        }

        /** Returns the number of sacks that are burnt in this minute. */
        int glow() {
            int burnt = 0;
            for (int sack = 0; sack < count; sack++) {
                if (isStored(sack)) {
                    warmOrCool(sack);
                    if (temperature[sack] >= 100) {
                        burn(sack);
                        burnt++;
                    }
                }
            }
            return burnt;
        }

        private void warmOrCool(int sack) {
            if (smoulders(sack)) {
                temperature[sack] += 2;
            } else if (temperature[sack] > COLD) {
                temperature[sack]--;
            }
        }

        private void burn(int sack) {
            state[sack] = BURNT;
            burntMass += mass[sack];
            heatUp(sack - 1);
            heatUp(sack + 1);
        }

        private void heatUp(int sack) {
            if (isStored(sack)) {
                temperature[sack] += 10;
            }
        }

        int countSmouldering() {
            int smouldering = 0;
            for (int sack = 0; sack < count; sack++) {
                if (smoulders(sack)) {
                    smouldering++;
                }
            }
            return smouldering;
        }

        int hottest() {
            int hottest = NONE;
            for (int sack = 0; sack < count; sack++) {
                if (isStored(sack) && (hottest == NONE || temperature[sack] > temperature[hottest])) {
                    hottest = sack;
                }
            }
            return hottest;
        }

        int sumOfMasses() {
            int sum = 0;
            for (int sack = 0; sack < count; sack++) {
                sum += mass[sack];
            }
            return sum;
        }

        int sumOfMassesGone() {
            int sum = 0;
            for (int sack = 0; sack < count; sack++) {
                if (!isStored(sack)) {
                    sum += mass[sack];
                }
            }
            return sum;
        }
    }

    /** Everything that undo restores, and the rules by which it changes. */
    private static final class House {
        int minute;
        int heat;
        int loadedMass;
        int dampedHeat;
        int vaneSteps;
        final Air air = new Air();
        final Floors floors = new Floors();
        final Sacks sacks = new Sacks();
        private final int[] temperatures = new int[MAX_FLOORS];

        void copyFrom(House other) {
            minute = other.minute;
            heat = other.heat;
            loadedMass = other.loadedMass;
            dampedHeat = other.dampedHeat;
            vaneSteps = other.vaneSteps;
            air.copyFrom(other.air);
            floors.copyFrom(other.floors);
            sacks.copyFrom(other.sacks);
        }

        int warmth(int floor, int pull) {
            int warmth = heat - 4 * floor - pull;
            for (int below = 0; below < floor; below++) {
                warmth -= floors.coolingBy(below);
            }
            return warmth;
        }

        int temperature(int floor, int pull) {
            int warmth = warmth(floor, pull);
            return warmth < 0 ? COLD : COLD + warmth;
        }

        int temperatureNow(int floor) {
            return temperature(floor, air.pull());
        }

        int dryingNow(int floor) {
            int pull = air.pull();
            return floors.decrease(floor, temperature(floor, pull), pull);
        }

        int warmest() {
            int warmest = 0;
            for (int floor = 1; floor < floors.count; floor++) {
                if (temperatureNow(floor) > temperatureNow(warmest)) {
                    warmest = floor;
                }
            }
            return warmest;
        }

        int countTooHot() {
            int tooHot = 0;
            for (int floor = 0; floor < floors.count; floor++) {
                if (temperatureNow(floor) > floors.limit[floor]) {
                    tooHot++;
                }
            }
            return tooHot;
        }

        int countWarmthBreaks() {
            int pull = air.pull();
            int breaks = 0;
            for (int floor = 1; floor < floors.count; floor++) {
                int due = warmth(floor - 1, pull) - 4 - floors.coolingBy(floor - 1);
                if (warmth(floor, pull) != due) {
                    breaks++;
                }
            }
            return breaks;
        }

        /**
         * A floor above its limit is warmer than 15 degrees, so each degree of heat less is a
         * degree of temperature less: the excess tells how often the heat decreases by 1.
         */
        void damp() {
            int pull = air.pull();
            for (int floor = 0; floor < floors.count; floor++) {
                int excess = temperature(floor, pull) - floors.limit[floor];
                if (excess > 0) {
                    heat -= excess;
                    dampedHeat += excess;
                }
            }
        }

        void place(int floor, int mass, int moisture) {
            floors.place(floor, mass, moisture);
            loadedMass += mass;
        }

        boolean canPut() {
            return !floors.isTaken(floors.count - 1);
        }

        void putOnTop(int mass, int moisture) {
            place(floors.count - 1, mass, moisture);
            damp();
        }

        int obstacle(int floor) {
            if (!floors.isTaken(floor)) {
                return NO_LOAD;
            }
            if (floor > 0) {
                return floors.isTaken(floor - 1) ? BELOW_TAKEN : NO_OBSTACLE;
            }
            if (!floors.holdsDryLoad(floor)) {
                return NOT_DRY;
            }
            return sacks.isFull() ? NO_SACK : NO_OBSTACLE;
        }

        private void moveOrPack(int floor) {
            if (floor > 0) {
                floors.moveDown(floor);
            } else {
                sacks.pack(floors, temperatureNow(0));
                floors.mass[0] = 0;
            }
        }

        void lowerOne(int floor) {
            moveOrPack(floor);
            damp();
        }

        int lowerAll() {
            int lowered = 0;
            for (int floor = 0; floor < floors.count; floor++) {
                if (obstacle(floor) == NO_OBSTACLE) {
                    moveOrPack(floor);
                    lowered++;
                }
            }
            damp();
            return lowered;
        }

        void stoke(int newHeat) {
            heat = newHeat;
            damp();
        }

        void shiftGear(int newGear) {
            air.gear = newGear;
            damp();
        }

        void changeWind(int direction, int strength) {
            air.windDirection = direction;
            air.windStrength = strength;
            damp();
        }

        boolean canWait(int minutes) {
            return minutes <= LAST_MINUTE - minute;
        }

        /** Returns the number of sacks that are burnt in these minutes. */
        int passMinutes(int minutes) {
            int burnt = 0;
            for (int passed = 0; passed < minutes; passed++) {
                minute++;
                if (minute % 10 == 0 && heat > 0) {
                    heat--;
                }
                vaneSteps += air.turnVane();
                dryLoads();
                burnt += sacks.glow();
                damp();
            }
            return burnt;
        }

        /** A load that dries warms the floors above, so all temperatures are taken first. */
        private void dryLoads() {
            int pull = air.pull();
            for (int floor = 0; floor < floors.count; floor++) {
                temperatures[floor] = temperature(floor, pull);
            }
            for (int floor = 0; floor < floors.count; floor++) {
                floors.dryLoad(floor, temperatures[floor], pull);
            }
        }
    }

    /**
     * The changes that can be undone, in a ring of houses, and the slots. Houses that are forgotten
     * stay there for the next change and the next save, so that a long run makes no more of them.
     */
    private static final class History {
        int count;
        private int first;
        private final House[] past = new House[MAX_UNDO];
        private final House[] slots = new House[SLOTS];
        private final boolean[] filled = new boolean[SLOTS];

        void record(House house) {
            int place = (first + count) % MAX_UNDO;
            if (past[place] == null) {
                past[place] = new House();
            }
            past[place].copyFrom(house);
            if (count < MAX_UNDO) {
                count++;
            } else {
                first = (first + 1) % MAX_UNDO;
            }
        }

        void takeBack(House house) {
            if (count > 0) {
                count--;
                House earlier = past[(first + count) % MAX_UNDO];
                if (earlier != null) {
                    house.copyFrom(earlier);
                }
            }
        }

        void forgetChanges() {
            count = 0;
        }

        House inSlot(int slot) {
            return slot >= 0 && slot < SLOTS && filled[slot] ? slots[slot] : null;
        }

        void fill(int slot, House house) {
            if (slot >= 0 && slot < SLOTS) {
                if (slots[slot] == null) {
                    slots[slot] = new House();
                }
                slots[slot].copyFrom(house);
                filled[slot] = true;
            }
        }

        void emptySlots() {
            for (int slot = 0; slot < SLOTS; slot++) {
                filled[slot] = false;
            }
        }
    }

    private static final class Text {
        int length;
        private final int[] bytes = new int[MAX_TEXT];

        void add(int value) {
            if (length < MAX_TEXT) {
                bytes[length] = value;
                length++;
            }
        }

        void addFour(int four) {
            for (int shift = 24; shift >= 0; shift -= 8) {
                int value = four >>> shift & 255;
                if (value != 0) {
                    add(value);
                }
            }
        }

        int at(int index) {
            return index >= 0 && index < length ? bytes[index] : NONE;
        }
    }

    /**
     * The tokens of the text from left to right, and the first error among them. After an error
     * nothing is read any more, so that a reader may go on to the end of its rule.
     */
    private static final class Tokens {
        int code;
        int position = NONE;
        private final Text text;
        private int kind;
        private int start;
        private int end;

        Tokens(Text text) {
            this.text = text;
        }

        void begin() {
            code = 0;
            position = NONE;
            end = 0;
            next();
        }

        boolean sound() {
            return code == 0;
        }

        void fail(int newCode) {
            if (code == 0) {
                code = newCode;
                position = start;
            }
        }

        void next() {
            if (!sound()) {
                return;
            }
            int at = end;
            while (at < text.length && isBlank(text.at(at))) {
                at++;
            }
            start = at;
            kind = kindOf(text.at(at));
            end = kind == END ? at : at + 1;
            if (kind == WORD || kind == NUMBER) {
                while (end < text.length && kindOf(text.at(end)) == kind) {
                    end++;
                }
            }
        }

        private static boolean isBlank(int value) {
            return value == ' ' || value == '\n';
        }

        private static int kindOf(int value) {
            if (value == NONE) {
                return END;
            }
            if (value >= 'a' && value <= 'z') {
                return WORD;
            }
            if (value >= '0' && value <= '9') {
                return NUMBER;
            }
            return value == ';' || value == '(' || value == ')' ? MARK : INVALID;
        }

        boolean isEnd() {
            return kind == END;
        }

        boolean isMark(char mark) {
            return kind == MARK && text.at(start) == mark;
        }

        boolean isWord(String word) {
            if (kind != WORD || end - start != word.length()) {
                return false;
            }
            for (int i = 0; i < word.length(); i++) {
                if (text.at(start + i) != word.charAt(i)) {
                    return false;
                }
            }
            return true;
        }

        void readMark(char mark) {
            if (!isMark(mark)) {
                fail(SYNTAX);
            }
            next();
        }

        void readWord(String word) {
            if (!isWord(word)) {
                fail(SYNTAX);
            }
            next();
        }

        /** Returns the number, or the lowest number allowed if there is an error. */
        int readNumber(int low, int high) {
            int value = seeNumber(low, high);
            next();
            return value;
        }

        /** As readNumber, but the number stays the present token. */
        int seeNumber(int low, int high) {
            if (kind != NUMBER) {
                fail(SYNTAX);
                return low;
            }
            int value = 0;
            for (int i = start; i < end && value <= high; i++) {
                value = 10 * value + text.at(i) - '0';
            }
            if (!within(value, low, high)) {
                fail(OUT_OF_RANGE);
                return low;
            }
            return value;
        }
    }

    private static final class SetupReader {
        private final Tokens tokens;
        private final House draft;

        SetupReader(Tokens tokens, House draft) {
            this.tokens = tokens;
            this.draft = draft;
        }

        void read() {
            tokens.begin();
            draft.floors.count = 0;
            draft.loadedMass = 0;
            readFireAndWind();
            readFloor();
            for (int more = 0; more < MAX_FLOORS && tokens.sound() && tokens.isWord("floor"); more++) {
                readFloor();
            }
            for (int loads = 0; loads <= MAX_FLOORS && tokens.sound() && tokens.isWord("load"); loads++) {
                readLoad();
            }
            if (!tokens.isEnd()) {
                tokens.fail(SYNTAX);
            }
            draft.damp();
            draft.dampedHeat = 0;
        }

        private void readFireAndWind() {
            tokens.readWord("oast");
            draft.heat = tokens.readNumber(0, MAX_HEAT);
            draft.air.gear = tokens.readNumber(0, MAX_GEAR);
            draft.air.windDirection = tokens.readNumber(0, DIRECTIONS - 1);
            draft.air.windStrength = tokens.readNumber(0, MAX_STRENGTH);
            draft.air.vaneDirection = tokens.readNumber(0, DIRECTIONS - 1);
            tokens.readMark(';');
        }

        private void readFloor() {
            if (tokens.isWord("floor") && draft.floors.count == MAX_FLOORS) {
                tokens.fail(TOO_MANY);
            }
            tokens.readWord("floor");
            int limit = tokens.readNumber(MIN_LIMIT, MAX_LIMIT);
            tokens.readMark(';');
            draft.floors.addFloor(limit);
        }

        private void readLoad() {
            tokens.readWord("load");
            int floor = tokens.seeNumber(0, draft.floors.count - 1);
            if (draft.floors.isTaken(floor)) {
                tokens.fail(FLOOR_TAKEN);
            }
            tokens.next();
            int mass = tokens.readNumber(1, MAX_MASS);
            int moisture = tokens.readNumber(0, MAX_MOISTURE);
            tokens.readMark(';');
            draft.place(floor, mass, moisture);
        }
    }

    /** The commands of a script in the order of their execution, as far as they can be executed. */
    private static final class Script {
        int length;
        private final int[] verbs = new int[MAX_EXECUTED];
        private final int[] firsts = new int[MAX_EXECUTED];
        private final int[] seconds = new int[MAX_EXECUTED];

        void add(int verb, int first, int second) {
            if (length < MAX_EXECUTED) {
                verbs[length] = verb;
                firsts[length] = first;
                seconds[length] = second;
                length++;
            }
        }

        /** Writes out what a "repeat" asks for, of which the first time stands already. */
        void repeatFrom(int start, int times) {
            int stop = length;
            for (int time = 1; time < times; time++) {
                for (int i = start; i < stop; i++) {
                    add(verbs[i], firsts[i], seconds[i]);
                }
            }
        }

        /** Tells whether the method of the command would not throw. */
        boolean canPerform(int index, House house) {
            if (index < 0 || index >= length) {
                return false;
            }
            switch (verbs[index]) {
                case DO_LOAD:
                    return house.canPut();
                case DO_LOWER:
                    return house.obstacle(firsts[index]) == NO_OBSTACLE;
                case DO_SELL:
                    return house.sacks.canSell(firsts[index]);
                case DO_QUENCH:
                    return house.sacks.isStored(firsts[index]);
                case DO_WAIT:
                    return house.canWait(firsts[index]);
                default:
                    return true;
            }
        }

        void perform(int index, House house) {
            if (index < 0 || index >= length) {
                return;
            }
            int first = firsts[index];
            int second = seconds[index];
            switch (verbs[index]) {
                case DO_LOAD:
                    house.putOnTop(first, second);
                    break;
                case DO_LOWER:
                    house.lowerOne(first);
                    break;
                case DO_ROTATE:
                    house.lowerAll();
                    break;
                case DO_FIRE:
                    house.stoke(first);
                    break;
                case DO_GEAR:
                    house.shiftGear(first);
                    break;
                case DO_WIND:
                    house.changeWind(first, second);
                    break;
                case DO_SELL:
                    house.sacks.giveAway(first);
                    break;
                case DO_QUENCH:
                    house.sacks.wet(first);
                    break;
                case DO_WAIT:
                    house.passMinutes(first);
                    break;
                default:
                    break;
            }
        }
    }

    private static final class ScriptReader {
        private final Tokens tokens;
        private final Script script;
        private int commands;
        private int depth;
        private final int[] starts = new int[MAX_NESTING];
        private final int[] times = new int[MAX_NESTING];

        ScriptReader(Tokens tokens, Script script) {
            this.tokens = tokens;
            this.script = script;
        }

        /** Each turn reads a command or closes a bracket, and there are no more brackets than commands. */
        void read() {
            tokens.begin();
            script.length = 0;
            commands = 0;
            depth = 0;
            for (int turn = 0; turn <= 2 * MAX_COMMANDS && tokens.sound() && !isDone(); turn++) {
                if (depth > 0 && tokens.isMark(')')) {
                    closeBracket();
                } else {
                    readCommand();
                }
            }
        }

        private boolean isDone() {
            return depth == 0 && tokens.isEnd();
        }

        private void readCommand() {
            int verb = verbHere();
            if (verb == NONE) {
                tokens.fail(SYNTAX);
            } else if (commands == MAX_COMMANDS) {
                tokens.fail(TOO_MANY);
            } else {
                commands++;
                tokens.next();
                if (verb == DO_REPEAT) {
                    openBracket();
                } else {
                    readNumbers(verb);
                    tokens.readMark(';');
                }
            }
        }

        private int verbHere() {
            if (tokens.isWord("load")) {
                return DO_LOAD;
            }
            if (tokens.isWord("lower")) {
                return DO_LOWER;
            }
            if (tokens.isWord("rotate")) {
                return DO_ROTATE;
            }
            if (tokens.isWord("fire")) {
                return DO_FIRE;
            }
            if (tokens.isWord("gear")) {
                return DO_GEAR;
            }
            if (tokens.isWord("wind")) {
                return DO_WIND;
            }
            if (tokens.isWord("sell")) {
                return DO_SELL;
            }
            if (tokens.isWord("quench")) {
                return DO_QUENCH;
            }
            if (tokens.isWord("wait")) {
                return DO_WAIT;
            }
            return tokens.isWord("repeat") ? DO_REPEAT : NONE;
        }

        private void readNumbers(int verb) {
            int first = 0;
            int second = 0;
            switch (verb) {
                case DO_LOAD:
                    first = tokens.readNumber(1, MAX_MASS);
                    second = tokens.readNumber(0, MAX_MOISTURE);
                    break;
                case DO_LOWER:
                    first = tokens.readNumber(0, MAX_FLOORS - 1);
                    break;
                case DO_FIRE:
                    first = tokens.readNumber(0, MAX_HEAT);
                    break;
                case DO_GEAR:
                    first = tokens.readNumber(0, MAX_GEAR);
                    break;
                case DO_WIND:
                    first = tokens.readNumber(0, DIRECTIONS - 1);
                    second = tokens.readNumber(0, MAX_STRENGTH);
                    break;
                case DO_SELL:
                case DO_QUENCH:
                    first = tokens.readNumber(0, MAX_SACKS - 1);
                    break;
                case DO_WAIT:
                    first = tokens.readNumber(1, MAX_WAIT);
                    break;
                default:
                    break;
            }
            script.add(verb, first, second);
        }

        private void openBracket() {
            int count = tokens.readNumber(1, MAX_TIMES);
            if (tokens.isMark('(') && depth == MAX_NESTING) {
                tokens.fail(TOO_MANY);
            }
            tokens.readMark('(');
            if (depth < MAX_NESTING) {
                starts[depth] = script.length;
                times[depth] = count;
                depth++;
            }
        }

        private void closeBracket() {
            tokens.readMark(')');
            tokens.readMark(';');
            if (depth > 0) {
                depth--;
                script.repeatFrom(starts[depth], times[depth]);
            }
        }
    }

    private static final class Output {
        int length;
        private final int[] bytes = new int[MAX_OUTPUT];

        void add(int value) {
            if (length < MAX_OUTPUT) {
                bytes[length] = value;
                length++;
            }
        }

        void separate() {
            if (length > 0) {
                add(' ');
            }
        }

        /** Masses, moistures and temperatures have at most three digits. */
        void addNumber(int number) {
            if (number >= 100) {
                add('0' + number / 100);
            }
            if (number >= 10) {
                add('0' + number / 10 % 10);
            }
            add('0' + number % 10);
        }

        int at(int index) {
            return index >= 0 && index < length ? bytes[index] : NONE;
        }
    }
}
