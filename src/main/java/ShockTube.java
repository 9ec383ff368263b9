/**
 * A tube of cells that keep mass, momentum, energy and fuel in whole units, fronts that are
 * followed as things, and a pipe in which water hammers.
 */
public final class ShockTube {
    public static final int NONE = -1;
    public static final int AIR = 0, HELIUM = 1, STEAM = 2;
    public static final int OPEN = 0, WALL = 1;
    public static final int SHOCK = 0, CONTACT = 1, FLAME = 2;

    private static final int MASS = 0, MOMENTUM = 1, ENERGY = 2, FUEL = 3;
    private static final int PARTS = 4;
    private static final int BURNING_HEAT = 4, BURNT_FUEL = 5;
    private static final int COUNTS = 6;

    private static final int MOST_CELLS = 32;
    private static final int MOST_MASS = 1000000;
    private static final int MOST_MOMENTUM = 10000000;
    private static final int MOST_ENERGY = 1000000000;
    private static final int MOST_STEPS = 300;
    private static final int MOST_HOT = 100000;
    private static final int MOST_CALLS = 512;
    private static final int MOST_FRONTS = 8;
    private static final int FAR_END = 100000;
    private static final int FASTEST = 900, STRONGEST = 900;
    private static final int MOST_REACHES = 20;
    private static final int MOST_RESERVOIR = 2000;
    private static final int SLOTS = 4;
    private static final long GREATEST_INT = 2147483647L;

    /** Of each gas: the pressure is TIMES by PARTS of what is within, and likewise k for the sound. */
    private static final int[] PRESSURE_TIMES = {2, 2, 1};
    private static final int[] PRESSURE_PARTS = {5, 3, 3};
    private static final int[] SOUND_TIMES = {7, 5, 4};
    private static final int[] SOUND_PARTS = {5, 3, 3};

    private final State now = new State();
    private final Step step = new Step();
    private final State[] kept = new State[SLOTS];

    public ShockTube() {
    }

    // ---- the tube

    public void shape(int cells, int left, int right) throws IllegalArgumentException {
        if (!isFrom(cells, 2, MOST_CELLS) || !isFrom(left, OPEN, WALL) || !isFrom(right, OPEN, WALL)) {
            throw new IllegalArgumentException("a tube has 2 to 32 cells and ends that are OPEN or a WALL");
        }
        now.tube.begin(cells, left, right);
        now.story.begin(now.tube);
    }

    public void gas(int gas) throws IllegalArgumentException {
        if (!isFrom(gas, AIR, STEAM)) {
            throw new IllegalArgumentException("the gas is AIR, HELIUM or STEAM");
        }
        now.tube.laws.gas = gas;
        now.story.note(Story.GAS, gas, 0, 0, 0, 0);
    }

    public void cell(int cell, int mass, int momentum, int energy, int fuel)
            throws IndexOutOfBoundsException, IllegalArgumentException, IllegalStateException {
        refuseCell(cell);
        if (!isFrom(mass, 1, MOST_MASS) || !isFrom(momentum, -MOST_MOMENTUM, MOST_MOMENTUM)
                || !isFrom(energy, 0, MOST_ENERGY) || !isFrom(fuel, 0, mass)) {
            throw new IllegalArgumentException("a cell with a part out of its range");
        }
        if (Laws.within(mass, momentum, energy) < 0) {
            throw new IllegalStateException("the cell would move with more energy than it has");
        }
        now.tube.tell(cell, mass, momentum, energy, fuel);
        now.story.note(Story.CELL, cell, mass, momentum, energy, fuel);
    }

    public void ignition(int temperature, int part, int heat) throws IllegalArgumentException {
        if (!isFrom(temperature, 0, MOST_HOT) || !isFrom(part, 0, 100) || !isFrom(heat, 0, 1000)) {
            throw new IllegalArgumentException("an ignition with a part out of its range");
        }
        now.tube.laws.ignite(temperature, part, heat);
        now.story.note(Story.IGNITION, temperature, part, heat, 0, 0);
    }

    public int step(int t, int many) throws IllegalArgumentException, IllegalStateException {
        if (!isFrom(t, 1, 400) || !isFrom(many, 1, 50)) {
            throw new IllegalArgumentException("t is 1 to 400, and steps are 1 to 50");
        }
        if (now.tube.steps + many > MOST_STEPS) {
            throw new IllegalStateException("a tube does at most 300 steps");
        }
        int done = 0;
        while (done < many && step.isDone(now.tube, t)) {
            done++;
        }
        if (done > 0) {
            now.story.note(Story.STEPS, t, done, 0, 0, 0);
        }
        return done;
    }

    public int tube(int cell, int what) throws IndexOutOfBoundsException, IllegalArgumentException {
        refuseCell(cell);
        refuseWhat(what, 7);
        return toInt(now.tube.tells(cell, what));
    }

    public int anew(int cell, int what) throws IndexOutOfBoundsException, IllegalArgumentException {
        refuseCell(cell);
        refuseWhat(what, FUEL);
        now.story.goOn(step);
        return toInt(now.story.anew.has[what][cell]);
    }

    public int probe(int cell, int what) throws IndexOutOfBoundsException, IllegalArgumentException {
        refuseCell(cell);
        refuseWhat(what, 1);
        return what == 0 ? toInt(now.tube.greatest[cell]) : now.tube.greatestStep[cell];
    }

    public long came(int what) throws IllegalArgumentException {
        refuseWhat(what, BURNT_FUEL);
        return now.tube.came[what];
    }

    public boolean isKept(int what) throws IllegalArgumentException {
        refuseWhat(what, FUEL);
        return now.tube.isBalanced(what);
    }

    public int many() {
        return now.tube.many;
    }

    public int steps() {
        return now.tube.steps;
    }

    // ---- fronts

    public int front(int kind, int place, int speed, int strength)
            throws IllegalArgumentException, IllegalStateException {
        if (!isFrom(kind, SHOCK, FLAME) || !isFrom(place, 0, FAR_END)
                || !isFrom(speed, -FASTEST, FASTEST) || !isFrom(strength, 1, STRONGEST)) {
            throw new IllegalArgumentException("a front with a part out of its range");
        }
        if (now.row.count >= MOST_FRONTS) {
            throw new IllegalStateException("there are at most 8 fronts");
        }
        int at = now.row.placeFor(place);
        now.row.putIn(at, kind, place, speed, strength);
        return at;
    }

    public int tick(int ticks) throws IllegalArgumentException {
        refuseTicks(ticks);
        for (int i = 0; i < ticks; i++) {
            now.row.move();
            now.row.meetAll();
        }
        return now.row.count;
    }

    public int fronts() {
        return now.row.count;
    }

    public int ofFront(int front, int what) throws IndexOutOfBoundsException, IllegalArgumentException {
        if (!isFrom(front, 0, now.row.count - 1)) {
            throw new IndexOutOfBoundsException("there are not so many fronts");
        }
        refuseWhat(what, 3);
        return now.row.tells(front, what);
    }

    // ---- the pipe

    public void pipe(int reaches, int impedance, int friction, int loss, int head, int flow)
            throws IllegalArgumentException {
        if (!isFrom(reaches, 1, MOST_REACHES) || !isFrom(impedance, 1, 50) || !isFrom(friction, 0, 20)
                || !isFrom(loss, 1, 50) || !isFrom(head, 0, MOST_RESERVOIR) || !isFrom(flow, -100, 100)) {
            throw new IllegalArgumentException("a pipe with a part out of its range");
        }
        now.pipe.impedance = impedance;
        now.pipe.friction = friction;
        now.pipe.loss = loss;
        now.pipe.begin(reaches, head, flow);
    }

    public int valve(int opening) throws IllegalArgumentException, IllegalStateException {
        if (!isFrom(opening, 0, 100)) {
            throw new IllegalArgumentException("a valve is open by 0 to 100");
        }
        refuseNoPipe();
        int before = now.pipe.opening;
        now.pipe.opening = opening;
        return before;
    }

    public int reservoir(int head) throws IllegalArgumentException, IllegalStateException {
        if (!isFrom(head, 0, MOST_RESERVOIR)) {
            throw new IllegalArgumentException("the reservoir has a head of 0 to 2000");
        }
        refuseNoPipe();
        int before = now.pipe.reservoirHead;
        now.pipe.reservoirHead = head;
        return before;
    }

    public int flow(int ticks) throws IllegalArgumentException, IllegalStateException {
        refuseTicks(ticks);
        refuseNoPipe();
        int done = 0;
        while (done < ticks && now.pipe.isTicked()) {
            done++;
        }
        return done;
    }

    public int node(int node, int what) throws IndexOutOfBoundsException, IllegalArgumentException {
        if (!isFrom(node, 0, now.pipe.nodes - 1)) {
            throw new IndexOutOfBoundsException("there is no such node");
        }
        refuseWhat(what, 3);
        return toInt(now.pipe.tells(node, what));
    }

    // ---- what is kept

    public void keep(int slot) throws IllegalArgumentException {
        refuseSlot(slot);
        State there = kept[slot];
        if (there == null) {
            there = new State();
            kept[slot] = there;
        }
        there.copyFrom(now);
    }

    public void goBack(int slot) throws IllegalArgumentException, IllegalStateException {
        refuseSlot(slot);
        State there = kept[slot];
        if (there == null) {
            throw new IllegalStateException("nothing was kept there");
        }
        now.copyFrom(there);
    }

    // ---- what is refused

    private void refuseCell(int cell) {
        if (!isFrom(cell, 0, now.tube.many - 1)) {
            throw new IndexOutOfBoundsException("there is no such cell");
        }
    }

    private static void refuseWhat(int what, int most) {
        if (!isFrom(what, 0, most)) {
            throw new IllegalArgumentException("nothing is told under this number");
        }
    }

    private static void refuseTicks(int ticks) {
        if (!isFrom(ticks, 1, 100)) {
            throw new IllegalArgumentException("ticks are 1 to 100");
        }
    }

    private void refuseNoPipe() {
        if (now.pipe.nodes == 0) {
            throw new IllegalStateException("there is no pipe");
        }
    }

    private static void refuseSlot(int slot) {
        if (!isFrom(slot, 0, SLOTS - 1)) {
            throw new IllegalArgumentException("slots are 0 to 3");
        }
    }

    private static boolean isFrom(int value, int least, int most) {
        return value >= least && value <= most;
    }

    private static int toInt(long value) {
        return (int) Math.min(value, GREATEST_INT);
    }

    /** Both rows are as long as one another, and the lesser length is taken all the same. */
    private static void copyRow(long[] from, long[] to) {
        System.arraycopy(from, 0, to, 0, Math.min(from.length, to.length));
    }

    private static void copyRow(int[] from, int[] to) {
        System.arraycopy(from, 0, to, 0, Math.min(from.length, to.length));
    }

    /** All that a slot keeps. */
    private static final class State {
        final Tube tube = new Tube();
        final Story story = new Story();
        final Row row = new Row();
        final Pipe pipe = new Pipe();

        void copyFrom(State other) {
            tube.copyFrom(other.tube);
            story.copyFrom(other.story);
            row.copyFrom(other.row);
            pipe.copyFrom(other.pipe);
        }
    }

    /** The gas and how fuel burns in it. */
    private static final class Laws {
        int gas = AIR;
        int ignition = MOST_HOT;
        int part;
        int heat;

        void ignite(int newIgnition, int newPart, int newHeat) {
            ignition = newIgnition;
            part = newPart;
            heat = newHeat;
        }

        void copyFrom(Laws other) {
            gas = other.gas;
            ignite(other.ignition, other.part, other.heat);
        }

        static long within(long mass, long momentum, long energy) {
            return energy - Math.floorDiv(momentum * momentum, 2 * mass);
        }

        static long speed(long mass, long momentum) {
            return Math.floorDiv(1000 * momentum, mass);
        }

        static long temperature(long mass, long pressure) {
            return Math.floorDiv(100 * pressure, mass);
        }

        long pressure(long within) {
            return Math.floorDiv(within * PRESSURE_TIMES[gas], (long) PRESSURE_PARTS[gas]);
        }

        long sound(long mass, long pressure) {
            long byMass = Math.floorDiv(pressure * SOUND_TIMES[gas] * 1000000, mass);
            return root(Math.floorDiv(byMass, (long) SOUND_PARTS[gas]));
        }

        /** Found from its highest bit on; no square here is above that of 2 to the 26th. */
        static long root(long square) {
            long found = 0;
            for (long bit = 1L << 26; bit > 0; bit >>= 1) {
                long more = found + bit;
                if (more * more <= square) {
                    found = more;
                }
            }
            return found;
        }

        /** How much of the fuel of a cell is gone in a step. */
        long burns(long mass, long pressure, long fuel) {
            return temperature(mass, pressure) >= ignition ? Math.floorDiv(fuel * part, 100L) : 0;
        }
    }

    /** The cells, their ends, and what was counted since the tube was shaped. */
    private static final class Tube {
        final Laws laws = new Laws();
        int many;
        int leftEnd;
        int rightEnd;
        int steps;
        final long[][] has = new long[PARTS][MOST_CELLS];
        final long[] told = new long[PARTS];
        final long[] came = new long[COUNTS];
        final long[] greatest = new long[MOST_CELLS];
        final int[] greatestStep = new int[MOST_CELLS];

        Tube() {
            begin(8, WALL, WALL);
        }

        void begin(int cells, int left, int right) {
            many = cells;
            leftEnd = left;
            rightEnd = right;
            steps = 0;
            for (int i = 0; i < COUNTS; i++) {
                came[i] = 0;
            }
            for (int i = 0; i < PARTS; i++) {
                told[i] = 0;
            }
            for (int i = 0; i < MOST_CELLS; i++) {
                clear(i);
            }
            for (int i = 0; i < many; i++) {
                tell(i, 1000, 0, 2000, 0);
            }
        }

        void clear(int cell) {
            for (int part = 0; part < PARTS; part++) {
                has[part][cell] = 0;
            }
            greatest[cell] = 0;
            greatestStep[cell] = 0;
        }

        void tell(int cell, int mass, int momentum, int energy, int fuel) {
            tellPart(MASS, cell, mass);
            tellPart(MOMENTUM, cell, momentum);
            tellPart(ENERGY, cell, energy);
            tellPart(FUEL, cell, fuel);
        }

        /** What was there is told away, so that the sum stays that of what is told now. */
        void tellPart(int part, int cell, long amount) {
            told[part] += amount - has[part][cell];
            has[part][cell] = amount;
        }

        boolean isWall(int border) {
            return border == 0 && leftEnd == WALL || border == many && rightEnd == WALL;
        }

        long pressure(int cell) {
            return laws.pressure(Laws.within(has[MASS][cell], has[MOMENTUM][cell], has[ENERGY][cell]));
        }

        long tells(int cell, int what) {
            long mass = has[MASS][cell];
            switch (what) {
                case 4:
                    return pressure(cell);
                case 5:
                    return Laws.speed(mass, has[MOMENTUM][cell]);
                case 6:
                    return laws.sound(mass, pressure(cell));
                case 7:
                    return Laws.temperature(mass, pressure(cell));
                default:
                    return has[what][cell];
            }
        }

        boolean isBalanced(int part) {
            long sum = 0;
            for (int i = 0; i < many; i++) {
                sum += has[part][i];
            }
            long burnt = 0;
            if (part == ENERGY) {
                burnt = came[BURNING_HEAT];
            } else if (part == FUEL) {
                burnt = -came[BURNT_FUEL];
            }
            return sum == told[part] + came[part] + burnt;
        }

        void noteProbe(int cell, long pressure) {
            if (pressure > greatest[cell]) {
                greatest[cell] = pressure;
                greatestStep[cell] = steps;
            }
        }

        void copyFrom(Tube other) {
            laws.copyFrom(other.laws);
            many = other.many;
            leftEnd = other.leftEnd;
            rightEnd = other.rightEnd;
            steps = other.steps;
            for (int part = 0; part < PARTS; part++) {
                copyRow(other.has[part], has[part]);
            }
            copyRow(other.told, told);
            copyRow(other.came, came);
            copyRow(other.greatest, greatest);
            copyRow(other.greatestStep, greatestStep);
        }
    }

    /** One step, found whole beside the tube, so that a refused one leaves the tube as it is. */
    private static final class Step {
        final long[] speed = new long[MOST_CELLS];
        final long[] sound = new long[MOST_CELLS];
        /** The q of each cell, for mass, momentum and energy. */
        final long[][] carries = new long[FUEL][MOST_CELLS];
        final long[] pace = new long[MOST_CELLS + 1];
        final long[][] over = new long[PARTS][MOST_CELLS + 1];
        final long[][] next = new long[PARTS][MOST_CELLS];
        final long[] pressureBehind = new long[MOST_CELLS];
        long burnt;

        boolean isDone(Tube tube, int t) {
            lookAtCells(tube);
            if (!isSlowEnough(tube, t)) {
                return false;
            }
            for (int border = 0; border <= tube.many; border++) {
                findBorder(tube, border, t);
            }
            burnt = 0;
            for (int cell = 0; cell < tube.many; cell++) {
                if (!isFound(tube, cell)) {
                    return false;
                }
            }
            take(tube);
            return true;
        }

        void lookAtCells(Tube tube) {
            for (int i = 0; i < tube.many; i++) {
                long mass = tube.has[MASS][i];
                long momentum = tube.has[MOMENTUM][i];
                long pressure = tube.pressure(i);
                speed[i] = Laws.speed(mass, momentum);
                sound[i] = tube.laws.sound(mass, pressure);
                carries[MASS][i] = momentum;
                carries[MOMENTUM][i] = Math.floorDiv(momentum * momentum, mass) + pressure;
                carries[ENERGY][i] = Math.floorDiv((tube.has[ENERGY][i] + pressure) * momentum, mass);
            }
        }

        /** Looked at ahead of all that goes, as with a faster one those numbers could be too long. */
        boolean isSlowEnough(Tube tube, int t) {
            boolean isSlow = true;
            for (int border = 0; border <= tube.many; border++) {
                pace[border] = paceAt(tube, border);
                isSlow = isSlow && t * pace[border] <= 500000;
            }
            return isSlow;
        }

        long paceAt(Tube tube, int border) {
            int left = leftOf(border);
            int right = rightOf(tube, border);
            long leftSpeed = Math.abs(speed[left]);
            if (tube.isWall(border)) {
                long turned = Laws.speed(tube.has[MASS][left], -tube.has[MOMENTUM][left]);
                leftSpeed = Math.max(leftSpeed, Math.abs(turned));
            }
            return Math.max(leftSpeed + sound[left], Math.abs(speed[right]) + sound[right]);
        }

        /** The cell outside an end is as the last one, so that stands for it. */
        static int leftOf(int border) {
            return Math.max(border - 1, 0);
        }

        static int rightOf(Tube tube, int border) {
            return Math.min(border, tube.many - 1);
        }

        void findBorder(Tube tube, int border, int t) {
            int left = leftOf(border);
            int right = rightOf(tube, border);
            if (tube.isWall(border)) {
                findWall(tube, border, t);
                return;
            }
            for (int part = MASS; part <= ENERGY; part++) {
                long carried = carries[part][left] + carries[part][right];
                long more = tube.has[part][right] - tube.has[part][left];
                over[part][border] = goes(t, border, carried, more);
            }
            over[FUEL][border] = fuelGoes(tube, left, right, over[MASS][border]);
        }

        void findWall(Tube tube, int border, int t) {
            int last = leftOf(border);
            long twice = 2 * tube.has[MOMENTUM][last];
            over[MASS][border] = 0;
            over[ENERGY][border] = 0;
            over[FUEL][border] = 0;
            over[MOMENTUM][border] =
                    goes(t, border, 2 * carries[MOMENTUM][last], border == 0 ? twice : -twice);
        }

        long goes(int t, int border, long carried, long more) {
            return Math.floorDiv(t * (1000 * carried - pace[border] * more), 2000000L);
        }

        static long fuelGoes(Tube tube, int left, int right, long mass) {
            if (mass > 0) {
                return fuelWith(tube, left, mass);
            }
            return -fuelWith(tube, right, -mass);
        }

        static long fuelWith(Tube tube, int cell, long mass) {
            long fuel = tube.has[FUEL][cell];
            return Math.min(Math.floorDiv(mass * fuel, tube.has[MASS][cell]), fuel);
        }

        /** Finds a cell as it will be, and whether it may be so. */
        boolean isFound(Tube tube, int cell) {
            for (int part = 0; part < PARTS; part++) {
                next[part][cell] = tube.has[part][cell] + over[part][cell] - over[part][cell + 1];
            }
            if (!isAllowed(cell)) {
                return false;
            }
            long mass = next[MASS][cell];
            long gone = tube.laws.burns(mass, pressureNext(tube, cell), next[FUEL][cell]);
            next[FUEL][cell] -= gone;
            next[ENERGY][cell] += gone * tube.laws.heat;
            burnt += gone;
            pressureBehind[cell] = pressureNext(tube, cell);
            return isAllowed(cell);
        }

        boolean isAllowed(int cell) {
            long mass = next[MASS][cell];
            long energy = next[ENERGY][cell];
            long fuel = next[FUEL][cell];
            return mass >= 1 && mass <= MOST_MASS && fuel >= 0 && fuel <= mass && energy <= MOST_ENERGY
                    && Laws.within(mass, next[MOMENTUM][cell], energy) >= 0;
        }

        long pressureNext(Tube tube, int cell) {
            return tube.laws.pressure(Laws.within(next[MASS][cell], next[MOMENTUM][cell], next[ENERGY][cell]));
        }

        void take(Tube tube) {
            tube.steps++;
            for (int part = 0; part < PARTS; part++) {
                copyRow(next[part], tube.has[part]);
                tube.came[part] += over[part][0] - over[part][tube.many];
            }
            tube.came[BURNING_HEAT] += burnt * tube.laws.heat;
            tube.came[BURNT_FUEL] += burnt;
            for (int i = 0; i < tube.many; i++) {
                tube.noteProbe(i, pressureBehind[i]);
            }
        }
    }

    /**
     * What was told and done since the tube was shaped, and a second tube that goes through it:
     * it is led on only when it is asked for, so that no step is done more than twice.
     */
    private static final class Story {
        static final int CELL = 0, GAS = 1, IGNITION = 2, STEPS = 3;
        static final int LENGTH = 6;

        final int[] notes = new int[MOST_CALLS * LENGTH];
        int count;
        int gone;
        final Tube anew = new Tube();

        void begin(Tube tube) {
            count = 0;
            gone = 0;
            anew.copyFrom(tube);
        }

        /** No call notes more than once, so that there is room for all that are promised. */
        void note(int kind, int a, int b, int c, int d, int e) {
            if (count >= MOST_CALLS) {
                return;
            }
            int at = count * LENGTH;
            notes[at] = kind;
            notes[at + 1] = a;
            notes[at + 2] = b;
            notes[at + 3] = c;
            notes[at + 4] = d;
            notes[at + 5] = e;
            count++;
        }

        void goOn(Step step) {
            for (; gone < count; gone++) {
                goThrough(gone * LENGTH, step);
            }
        }

        void goThrough(int at, Step step) {
            int first = notes[at + 1];
            int second = notes[at + 2];
            int third = notes[at + 3];
            switch (notes[at]) {
                case CELL:
                    anew.tell(first, second, third, notes[at + 4], notes[at + 5]);
                    break;
                case GAS:
                    anew.laws.gas = first;
                    break;
                case IGNITION:
                    anew.laws.ignite(first, second, third);
                    break;
                default:
                    for (int i = 0; i < second; i++) {
                        step.isDone(anew, first);
                    }
                    break;
            }
        }

        void copyFrom(Story other) {
            System.arraycopy(other.notes, 0, notes, 0, other.count * LENGTH);
            count = other.count;
            gone = other.gone;
            anew.copyFrom(other.anew);
        }
    }

    /** The fronts, from the left to the right. */
    private static final class Row {
        int count;
        final int[] kind = new int[MOST_FRONTS];
        final int[] place = new int[MOST_FRONTS];
        /** The place ahead of the tick, or that of the last meeting in it. */
        final int[] ahead = new int[MOST_FRONTS];
        final int[] speed = new int[MOST_FRONTS];
        final int[] strength = new int[MOST_FRONTS];

        /** The row need not be in order after a tick, so all of it is looked at. */
        int placeFor(int newPlace) {
            int at = 0;
            for (int i = 0; i < count; i++) {
                if (place[i] <= newPlace) {
                    at = i + 1;
                }
            }
            return at;
        }

        void putIn(int at, int newKind, int newPlace, int newSpeed, int newStrength) {
            for (int i = count; i > at; i--) {
                copyFront(i - 1, i);
            }
            count++;
            kind[at] = newKind;
            place[at] = newPlace;
            ahead[at] = newPlace;
            speed[at] = newSpeed;
            strength[at] = newStrength;
        }

        void takeOut(int at) {
            count--;
            for (int i = at; i < count; i++) {
                copyFront(i + 1, i);
            }
        }

        void copyFront(int from, int to) {
            kind[to] = kind[from];
            place[to] = place[from];
            ahead[to] = ahead[from];
            speed[to] = speed[from];
            strength[to] = strength[from];
        }

        void move() {
            int staying = 0;
            for (int i = 0; i < count; i++) {
                int to = place[i] + speed[i];
                boolean isBeyond = to < 0 || to > FAR_END;
                if (!isBeyond || kind[i] == SHOCK) {
                    copyFront(i, staying);
                    ahead[staying] = place[i];
                    place[staying] = Math.max(0, Math.min(to, FAR_END));
                    if (isBeyond) {
                        turn(staying);
                    }
                    staying++;
                }
            }
            count = staying;
        }

        void turn(int at) {
            speed[at] = -speed[at];
            strength[at] = Math.min(STRONGEST, strength[at] * 3 / 2);
        }

        /** Each look leaves one front fewer to the right, whatever comes of it. */
        void meetAll() {
            int at = 0;
            for (int right = count - 1; right > 0; right--) {
                at += isMeeting(at) ? meet(at) - 1 : 1;
            }
        }

        boolean isMeeting(int at) {
            return place[at] > place[at + 1]
                    || place[at] == place[at + 1] && ahead[at] < ahead[at + 1];
        }

        /** Answers how many are at the meeting then. */
        int meet(int at) {
            int right = at + 1;
            int meeting = (place[at] + place[right]) / 2;
            setPlace(at, meeting);
            setPlace(right, meeting);
            if (kind[at] == SHOCK && kind[right] == SHOCK) {
                return meetShocks(at);
            }
            if (kind[at] == SHOCK || kind[right] == SHOCK) {
                return goThroughOther(at);
            }
            if (kind[at] != kind[right]) {
                takeOut(kind[at] == FLAME ? at : right);
            } else {
                takeOut(strength[right] > strength[at] ? at : right);
            }
            return 1;
        }

        void setPlace(int at, int meeting) {
            place[at] = meeting;
            ahead[at] = meeting;
        }

        int meetShocks(int at) {
            int right = at + 1;
            if (speed[at] * speed[right] > 0) {
                merge(at);
                return 1;
            }
            changePlaces(at);
            if (strength[at] == strength[right] || count >= MOST_FRONTS) {
                return 2;
            }
            int drift = (speed[at] + speed[right]) / 10;
            int difference = Math.abs(strength[at] - strength[right]);
            putIn(right, CONTACT, place[at], drift, difference);
            return 3;
        }

        void merge(int at) {
            int right = at + 1;
            int sum = strength[at] + strength[right];
            speed[at] = (speed[at] * strength[at] + speed[right] * strength[right]) / sum;
            strength[at] = Math.min(STRONGEST, sum);
            takeOut(right);
        }

        int goThroughOther(int at) {
            int shock = kind[at] == SHOCK ? at : at + 1;
            int other = kind[at] == SHOCK ? at + 1 : at;
            if (kind[other] == CONTACT) {
                speed[other] = held(speed[other] + speed[shock] / 10);
                strength[shock] = Math.max(1, strength[shock] * 9 / 10);
            } else {
                speed[other] = held(speed[other] * 2);
            }
            changePlaces(at);
            return 2;
        }

        static int held(int newSpeed) {
            return Math.max(-FASTEST, Math.min(newSpeed, FASTEST));
        }

        void changePlaces(int at) {
            int right = at + 1;
            int oldKind = kind[at];
            int oldSpeed = speed[at];
            int oldStrength = strength[at];
            copyFront(right, at);
            kind[right] = oldKind;
            speed[right] = oldSpeed;
            strength[right] = oldStrength;
        }

        int tells(int at, int what) {
            switch (what) {
                case 0:
                    return kind[at];
                case 1:
                    return place[at];
                case 2:
                    return speed[at];
                default:
                    return strength[at];
            }
        }

        void copyFrom(Row other) {
            count = other.count;
            copyRow(other.kind, kind);
            copyRow(other.place, place);
            copyRow(other.ahead, ahead);
            copyRow(other.speed, speed);
            copyRow(other.strength, strength);
        }
    }

    /** The pipe; without nodes there is none. */
    private static final class Pipe {
        static final int HIGHEST = 1000000;
        static final int STRONGEST_FLOW = 100000;
        static final int LOWEST_HEAD = -100;

        int nodes;
        int impedance = 1;
        int friction;
        int loss = 1;
        int opening;
        int reservoirHead;
        final long[] head = new long[MOST_REACHES + 1];
        final long[] flow = new long[MOST_REACHES + 1];
        final long[] cavity = new long[MOST_REACHES + 1];
        final long[] greatest = new long[MOST_REACHES + 1];
        final long[] nextHead = new long[MOST_REACHES + 1];
        final long[] nextFlow = new long[MOST_REACHES + 1];
        final long[] nextCavity = new long[MOST_REACHES + 1];

        void begin(int reaches, int newHead, int newFlow) {
            nodes = reaches + 1;
            opening = 100;
            reservoirHead = newHead;
            for (int i = 0; i < nodes; i++) {
                head[i] = newHead;
                flow[i] = newFlow;
                cavity[i] = 0;
                greatest[i] = newHead;
            }
        }

        /** All nodes are found beside the pipe, so that a refused tick leaves it as it is. */
        boolean isTicked() {
            findReservoir();
            for (int i = 1; i < nodes - 1; i++) {
                findBetween(i);
            }
            findValve();
            for (int i = 0; i < nodes; i++) {
                if (!isAllowed(i)) {
                    return false;
                }
            }
            take();
            return true;
        }

        long fromLeft(int node) {
            int left = node - 1;
            return head[left] + impedance * flow[left] - rubbed(left);
        }

        long fromRight(int node) {
            int right = node + 1;
            return head[right] - impedance * flow[right] + rubbed(right);
        }

        long rubbed(int node) {
            return friction * flow[node] * Math.abs(flow[node]) / 100;
        }

        void findReservoir() {
            nextHead[0] = reservoirHead;
            nextFlow[0] = (reservoirHead - fromRight(0)) / impedance;
            nextCavity[0] = 0;
        }

        void findBetween(int node) {
            long c = fromLeft(node);
            long d = fromRight(node);
            nextHead[node] = Math.floorDiv(c + d, 2L);
            nextFlow[node] = (c - d) / (2 * impedance);
            findCavity(node, c, (LOWEST_HEAD - d) / impedance);
        }

        void findValve() {
            int node = nodes - 1;
            long c = fromLeft(node);
            nextFlow[node] = c < 0 ? 0 : opening * c / (100 * loss + opening * impedance);
            nextHead[node] = c - impedance * nextFlow[node];
            findCavity(node, c, 0);
        }

        /** A cavity that is at 0 or less is none, and the node stays as it was found without. */
        void findCavity(int node, long c, long goes) {
            nextCavity[node] = 0;
            if (cavity[node] <= 0 && nextHead[node] >= LOWEST_HEAD) {
                return;
            }
            long comes = (c - LOWEST_HEAD) / impedance;
            long grown = cavity[node] + goes - comes;
            if (grown > 0) {
                nextCavity[node] = grown;
                nextHead[node] = LOWEST_HEAD;
                nextFlow[node] = goes;
            }
        }

        boolean isAllowed(int node) {
            return Math.abs(nextHead[node]) <= HIGHEST && Math.abs(nextFlow[node]) <= STRONGEST_FLOW;
        }

        void take() {
            copyRow(nextHead, head);
            copyRow(nextFlow, flow);
            copyRow(nextCavity, cavity);
            for (int i = 0; i < nodes; i++) {
                greatest[i] = Math.max(greatest[i], head[i]);
            }
        }

        long tells(int node, int what) {
            switch (what) {
                case 0:
                    return head[node];
                case 1:
                    return flow[node];
                case 2:
                    return cavity[node];
                default:
                    return greatest[node];
            }
        }

        void copyFrom(Pipe other) {
            nodes = other.nodes;
            impedance = other.impedance;
            friction = other.friction;
            loss = other.loss;
            opening = other.opening;
            reservoirHead = other.reservoirHead;
            copyRow(other.head, head);
            copyRow(other.flow, flow);
            copyRow(other.cavity, cavity);
            copyRow(other.greatest, greatest);
        }
    }
}
