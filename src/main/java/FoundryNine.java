import java.util.Arrays;

/** A reader of circuits: lines are told, flaws and ways are asked for, and the circuit runs. */
public final class FoundryNine {
    private static final int WIRES = 24;
    private static final int MOST_LINES = 30;
    private static final int MOST_DELAY = 20;
    private static final int MOST_WINDOW = 20;
    private static final int MOST_PASSED = 100;
    private static final int MOST_COMING = 300;
    private static final int MOST_HAZARDS = 40;

    private static final int NONE = -1;
    private static final int NOT_KNOWN = 2;
    private static final int ANY_TIME = 0x7fffffff;

    private static final int NOT = 0;
    private static final int SAME = 1;
    private static final int AND = 2;
    private static final int OR = 3;
    private static final int DIFFER = 4;
    private static final int NOT_AND = 5;
    private static final int NOT_OR = 6;
    private static final int CHOOSE = 7;
    private static final int INPUT = 8;
    private static final int REGISTER = 9;

    private static final int SEVERAL_DRIVE = 1;
    private static final int NONE_DRIVES = 2;
    private static final int IN_RING = 3;

    private static final int CAME_BACK = 1;
    private static final int TO_AND_FRO = 2;
    private static final int LATE_DATA = 3;
    private static final int EARLY_DATA = 4;

    private static final long DIGEST_START = 58070L;
    private static final int DIGEST_PLACES = 6;

    private final Circuit circuit;
    private final Flaws noted;
    private final Arrivals arrivals;
    private final Arrivals arrivalsWith;
    private final Run run;
    private final Run trial;
    private boolean running;

    public FoundryNine() {
        circuit = new Circuit();
        noted = new Flaws();
        arrivals = new Arrivals();
        arrivalsWith = new Arrivals();
        run = new Run(circuit);
        trial = new Run(circuit);
        running = false;
    }

    // ---- lines

    public int input(int wire) throws IndexOutOfBoundsException, IllegalStateException {
        checkWire(wire);
        checkRoom();
        return addLine(INPUT, wire, NONE, NONE, NONE, 0);
    }

    public int gate(int kind, int wire, int a, int b, int c, int delay)
            throws IllegalArgumentException, IndexOutOfBoundsException, IllegalStateException {
        if (kind < NOT || kind > CHOOSE) {
            throw new IllegalArgumentException("no such kind");
        }
        checkDelay(delay);
        // A pin that the kind lacks stands for its a, so that what was told there is never looked at.
        int second = kind >= AND ? b : a;
        int third = kind == CHOOSE ? c : a;
        checkWire(wire);
        checkWire(a);
        checkWire(second);
        checkWire(third);
        checkRoom();
        return addLine(kind, wire, a, second, third, delay);
    }

    public int register(int wire, int data, int clock, int reset, int delay)
            throws IndexOutOfBoundsException, IllegalArgumentException, IllegalStateException {
        checkWire(wire);
        checkWire(data);
        checkWire(clock);
        if (reset != NONE) {
            checkWire(reset);
        }
        checkDelay(delay);
        checkRoom();
        return addLine(REGISTER, wire, data, clock, reset, delay);
    }

    public int setWindow(int line, int setup, int hold) throws IndexOutOfBoundsException, IllegalArgumentException {
        checkLine(line);
        if (circuit.kind[line] != REGISTER) {
            throw new IllegalArgumentException("no register");
        }
        if (!isWithin(setup, MOST_WINDOW) || !isWithin(hold, MOST_WINDOW)) {
            throw new IllegalArgumentException("no such window");
        }
        int before = circuit.setup[line];
        circuit.setup[line] = setup;
        circuit.hold[line] = hold;
        return before;
    }

    public int setDelay(int line, int delay) throws IndexOutOfBoundsException, IllegalArgumentException {
        checkLine(line);
        checkHasDelay(line);
        checkDelay(delay);
        int before = circuit.delay[line];
        circuit.delay[line] = delay;
        arrivals.reckon(circuit, noted, NONE, 0);
        return before;
    }

    public int lines() {
        return circuit.count;
    }

    // ---- flaws, and ways

    public int flaws() {
        return noted.count;
    }

    public int ofFlaw(int flaw, int what) throws IndexOutOfBoundsException, IllegalArgumentException {
        if (flaw < 0 || flaw >= noted.count) {
            throw new IndexOutOfBoundsException("no such flaw");
        }
        if (what == 0) {
            return noted.code[flaw];
        }
        if (what == 1) {
            return noted.place[flaw];
        }
        throw new IllegalArgumentException("neither code nor place");
    }

    public int arrival(int wire) throws IndexOutOfBoundsException {
        checkWire(wire);
        return arrivals.arrival[wire];
    }

    public int longest() {
        return arrivals.greatest();
    }

    public int way(int place) {
        if (place < 0 || place >= WIRES) {
            return NONE;
        }
        int wire = arrivals.latestDriven(circuit);
        for (int at = 0; at < place && wire != NONE; at++) {
            wire = arrivals.wireBehind(circuit, wire);
        }
        return wire;
    }

    public int users(int wire) throws IndexOutOfBoundsException {
        checkWire(wire);
        return Integer.bitCount(circuit.users[wire]);
    }

    // ---- running

    public int start() throws IllegalStateException {
        if (noted.forbidRunning) {
            throw new IllegalStateException("there are flaws");
        }
        running = true;
        run.begin();
        return run.linesPending();
    }

    public int set(int wire, int value)
            throws IllegalStateException, IndexOutOfBoundsException, IllegalArgumentException {
        checkRunning();
        checkWire(wire);
        checkSetting(wire, value);
        int before = run.value[wire];
        run.put(wire, value);
        return before;
    }

    public int pass(int by) throws IllegalStateException, IllegalArgumentException {
        checkRunning();
        if (!isWithin(by, MOST_PASSED)) {
            throw new IllegalArgumentException("no such step");
        }
        int until = run.now + by;
        int changes = run.letCome(until);
        run.now = until;
        return changes;
    }

    public int settle() throws IllegalStateException {
        checkRunning();
        return run.comeToRest();
    }

    public boolean isRunning() {
        return running;
    }

    public int told(int what) throws IllegalArgumentException {
        switch (what) {
            case 0:
                return run.now;
            case 1:
                return run.linesPending();
            case 2:
                return run.nextTime();
            case 3:
                return run.swallowed;
            case 4:
                return run.restless;
            case 5:
                return run.changes;
            default:
                throw new IllegalArgumentException("nothing of that number is told");
        }
    }

    public int ofWire(int wire, int what) throws IndexOutOfBoundsException, IllegalArgumentException {
        checkWire(wire);
        switch (what) {
            case 0:
                return run.value[wire];
            case 1:
                return run.changedAt[wire];
            case 2:
                return run.timesChanged[wire];
            case 3:
                return run.countedFrom[wire];
            default:
                throw new IllegalArgumentException("nothing of that number is known of a wire");
        }
    }

    public int pending(int line) throws IndexOutOfBoundsException {
        checkLine(line);
        return run.pendingValue[line];
    }

    public int hazards() {
        return run.hazardCount;
    }

    public int ofHazard(int hazard, int what) throws IndexOutOfBoundsException, IllegalArgumentException {
        if (hazard < 0 || hazard >= run.hazardCount) {
            throw new IndexOutOfBoundsException("no such hazard");
        }
        switch (what) {
            case 0:
                return run.hazardCode[hazard];
            case 1:
                return run.hazardWire[hazard];
            case 2:
                return run.hazardTime[hazard];
            default:
                throw new IllegalArgumentException("nothing of that number is kept of a hazard");
        }
    }

    // ---- what would be

    public int wouldBe(int wire, int value, int other)
            throws IllegalStateException, IndexOutOfBoundsException, IllegalArgumentException {
        checkRunning();
        checkWire(wire);
        checkWire(other);
        checkSetting(wire, value);
        trial.copyFrom(run);
        trial.put(wire, value);
        trial.comeToRest();
        return trial.value[other];
    }

    public int hazardsWith(int wire, int value)
            throws IllegalStateException, IndexOutOfBoundsException, IllegalArgumentException {
        checkRunning();
        checkWire(wire);
        checkSetting(wire, value);
        trial.copyFrom(run);
        trial.put(wire, value);
        trial.comeToRest();
        return trial.hazardCount - run.hazardCount;
    }

    public int settlesIn() throws IllegalStateException {
        checkRunning();
        trial.copyFrom(run);
        trial.letCome(ANY_TIME);
        return trial.restless == run.restless ? trial.now - run.now : NONE;
    }

    public int longestWith(int line, int delay) throws IndexOutOfBoundsException, IllegalArgumentException {
        checkLine(line);
        checkHasDelay(line);
        checkDelay(delay);
        arrivalsWith.reckon(circuit, noted, line, delay);
        return arrivalsWith.greatest();
    }

    public double meanArrival() {
        int sum = 0;
        int counted = 0;
        for (int wire = 0; wire < WIRES; wire++) {
            if (circuit.drivers[wire] > 0 && arrivals.arrival[wire] != NONE) {
                sum += arrivals.arrival[wire];
                counted++;
            }
        }
        return counted == 0 ? 0.0 : (double) sum / (double) counted;
    }

    public long digest() {
        long d = DIGEST_START;
        d = d * 31 + lines();
        d = d * 31 + flaws();
        d = d * 31 + longest();
        d = d * 31 + (isRunning() ? 1 : 0);
        d = digestOfTimes(d);
        d = digestOfCircuit(d);
        d = digestOfWires(d);
        d = digestOfRun(d);
        return running ? d * 31 + settlesIn() : d;
    }

    private long digestOfTimes(long start) {
        long d = start;
        for (int what = 0; what <= 5; what++) {
            d = d * 31 + told(what);
        }
        return d;
    }

    private long digestOfCircuit(long start) {
        long d = start;
        for (int flaw = 0; flaw < noted.count; flaw++) {
            d = d * 31 + ofFlaw(flaw, 0);
            d = d * 31 + ofFlaw(flaw, 1);
        }
        for (int place = 0; place < DIGEST_PLACES; place++) {
            d = d * 31 + way(place);
        }
        return d;
    }

    private long digestOfWires(long start) {
        long d = start;
        for (int wire = 0; wire < WIRES; wire++) {
            d = d * 31 + arrival(wire);
            d = d * 31 + users(wire);
            for (int what = 0; what <= 3; what++) {
                d = d * 31 + ofWire(wire, what);
            }
        }
        return d;
    }

    private long digestOfRun(long start) {
        long d = start;
        for (int line = 0; line < circuit.count; line++) {
            d = d * 31 + pending(line);
        }
        d = d * 31 + hazards();
        for (int hazard = 0; hazard < run.hazardCount; hazard++) {
            for (int what = 0; what <= 2; what++) {
                d = d * 31 + ofHazard(hazard, what);
            }
        }
        return d;
    }

    private int addLine(int kind, int wire, int a, int b, int c, int delay) {
        int line = circuit.add(kind, wire, a, b, c, delay);
        running = false;
        noted.find(circuit);
        arrivals.reckon(circuit, noted, NONE, 0);
        return line;
    }

    private static boolean isWire(int wire) {
        return wire >= 0 && wire < WIRES;
    }

    private static boolean isWithin(int number, int most) {
        return number >= 0 && number <= most;
    }

    private static void checkWire(int wire) {
        if (!isWire(wire)) {
            throw new IndexOutOfBoundsException("no such wire");
        }
    }

    private static void checkDelay(int delay) {
        if (!isWithin(delay, MOST_DELAY)) {
            throw new IllegalArgumentException("no such delay");
        }
    }

    private void checkRoom() {
        if (circuit.count >= MOST_LINES) {
            throw new IllegalStateException("there is no room for a line");
        }
    }

    private void checkLine(int line) {
        if (line < 0 || line >= circuit.count) {
            throw new IndexOutOfBoundsException("no such line");
        }
    }

    private void checkHasDelay(int line) {
        if (circuit.kind[line] == INPUT) {
            throw new IllegalArgumentException("an input has no delay");
        }
    }

    private void checkRunning() {
        if (!running) {
            throw new IllegalStateException("it does not run");
        }
    }

    private void checkSetting(int wire, int value) {
        if (!circuit.isFirstDrivenBy(wire, INPUT)) {
            throw new IllegalArgumentException("no input drives it");
        }
        if (value != 0 && value != 1) {
            throw new IllegalArgumentException("no such value of an input");
        }
    }

    /** The lines as they were told, with who uses and who drives each wire. */
    private static final class Circuit {
        private final int[] kind = new int[MOST_LINES];
        private final int[] wire = new int[MOST_LINES];
        /** The pins: a, b and c of a gate; data, clock and reset of a register. */
        private final int[] a = new int[MOST_LINES];
        private final int[] b = new int[MOST_LINES];
        private final int[] c = new int[MOST_LINES];
        private final int[] delay = new int[MOST_LINES];
        private final int[] setup = new int[MOST_LINES];
        private final int[] hold = new int[MOST_LINES];
        /** Of each wire, a bit for each line that uses it. */
        private final int[] users = new int[WIRES];
        private final int[] drivers = new int[WIRES];
        private final int[] firstDriver = new int[WIRES];
        private int count;

        Circuit() {
            Arrays.fill(firstDriver, NONE);
            count = 0;
        }

        int add(int newKind, int drives, int first, int second, int third, int newDelay) {
            if (count >= MOST_LINES || !isWire(drives)) {
                return NONE;
            }
            int line = count;
            kind[line] = newKind;
            wire[line] = drives;
            a[line] = first;
            b[line] = second;
            c[line] = third;
            delay[line] = newDelay;
            noteUse(line, first);
            noteUse(line, second);
            noteUse(line, third);
            if (drivers[drives] == 0) {
                firstDriver[drives] = line;
            }
            drivers[drives]++;
            count++;
            return line;
        }

        private void noteUse(int line, int pin) {
            if (isWire(pin)) {
                users[pin] |= 1 << line;
            }
        }

        boolean isGate(int line) {
            return kind[line] <= CHOOSE;
        }

        boolean isFirstDrivenBy(int driven, int byKind) {
            int line = firstLineOf(driven);
            return line != NONE && kind[line] == byKind;
        }

        boolean isUsedBy(int used, int line) {
            return (users[used] & (1 << line)) != 0;
        }

        int firstLineOf(int driven) {
            int line = isWire(driven) ? firstDriver[driven] : NONE;
            return line >= 0 && line < count ? line : NONE;
        }

        /** A bit for each wire by which a gate drives its own. */
        int pinsOf(int gate) {
            return (1 << a[gate]) | (1 << b[gate]) | (1 << c[gate]);
        }
    }

    /** What does not go together in a circuit. */
    private static final class Flaws {
        private final int[] code = new int[WIRES + MOST_LINES];
        private final int[] place = new int[WIRES + MOST_LINES];
        private final boolean[] inRing = new boolean[MOST_LINES];
        /** Of each wire, a bit for each wire to which one can come from it through gates, itself too. */
        private final int[] reach = new int[WIRES];
        private int count;
        private boolean forbidRunning;

        Flaws() {
            count = 0;
            forbidRunning = false;
        }

        void find(Circuit circuit) {
            count = 0;
            for (int wire = 0; wire < WIRES; wire++) {
                if (circuit.drivers[wire] > 1) {
                    note(SEVERAL_DRIVE, wire);
                } else if (circuit.drivers[wire] == 0 && circuit.users[wire] != 0) {
                    note(NONE_DRIVES, wire);
                }
            }
            forbidRunning = count > 0;
            findReach(circuit);
            for (int line = 0; line < circuit.count; line++) {
                inRing[line] = circuit.isGate(line) && (reachOf(circuit.wire[line]) & circuit.pinsOf(line)) != 0;
                if (inRing[line]) {
                    note(IN_RING, line);
                }
            }
        }

        private void note(int newCode, int newPlace) {
            if (count < WIRES + MOST_LINES) {
                code[count] = newCode;
                place[count] = newPlace;
                count++;
            }
        }

        private void findReach(Circuit circuit) {
            for (int wire = 0; wire < WIRES; wire++) {
                reach[wire] = 1 << wire;
                for (int line = 0; line < circuit.count; line++) {
                    if (circuit.isGate(line) && circuit.isUsedBy(wire, line)) {
                        reach[wire] |= 1 << circuit.wire[line];
                    }
                }
            }
            for (int via = 0; via < WIRES; via++) {
                for (int from = 0; from < WIRES; from++) {
                    if ((reach[from] & (1 << via)) != 0) {
                        reach[from] |= reach[via];
                    }
                }
            }
        }

        private int reachOf(int wire) {
            return isWire(wire) ? reach[wire] : 0;
        }
    }

    /** When the last change can have come to each wire. */
    private static final class Arrivals {
        private static final int NOT_YET = -2;

        private final int[] arrival = new int[WIRES];

        /** Reckons them with another delay of one line, or as they are, if that line is NONE. */
        void reckon(Circuit circuit, Flaws flaws, int otherLine, int otherDelay) {
            Arrays.fill(arrival, NOT_YET);
            boolean more = true;
            // Without rings each round finds one wire at least, and the gates of rings are found at once.
            for (int round = 0; more && round < WIRES; round++) {
                more = false;
                for (int wire = 0; wire < WIRES; wire++) {
                    if (arrival[wire] == NOT_YET) {
                        int line = circuit.firstLineOf(wire);
                        int delay = line == NONE ? 0 : line == otherLine ? otherDelay : circuit.delay[line];
                        arrival[wire] = arrivalBy(circuit, flaws, line, delay);
                        more = true;
                    }
                }
            }
        }

        private int arrivalBy(Circuit circuit, Flaws flaws, int line, int delay) {
            if (line == NONE || circuit.kind[line] == INPUT) {
                return 0;
            }
            if (circuit.kind[line] == REGISTER) {
                return delay;
            }
            if (flaws.inRing[line]) {
                return NONE;
            }
            int atA = arrivalOf(circuit.a[line]);
            int atB = arrivalOf(circuit.b[line]);
            int atC = arrivalOf(circuit.c[line]);
            if (atA == NOT_YET || atB == NOT_YET || atC == NOT_YET) {
                return NOT_YET;
            }
            if (atA == NONE || atB == NONE || atC == NONE) {
                return NONE;
            }
            return delay + Math.max(atA, Math.max(atB, atC));
        }

        private int arrivalOf(int wire) {
            return isWire(wire) ? arrival[wire] : 0;
        }

        int greatest() {
            int greatest = 0;
            for (int wire = 0; wire < WIRES; wire++) {
                greatest = Math.max(greatest, arrival[wire]);
            }
            return greatest;
        }

        /** The wire with which the way begins; NONE if there is none. */
        int latestDriven(Circuit circuit) {
            int latest = NONE;
            int greatest = NONE;
            for (int wire = 0; wire < WIRES; wire++) {
                if (circuit.drivers[wire] > 0 && arrival[wire] > greatest) {
                    latest = wire;
                    greatest = arrival[wire];
                }
            }
            return latest;
        }

        /** The wire ahead of which a wire stands on the way; NONE if no gate drives it. */
        int wireBehind(Circuit circuit, int wire) {
            int line = circuit.firstLineOf(wire);
            if (line == NONE || !circuit.isGate(line)) {
                return NONE;
            }
            int latest = circuit.a[line];
            if (arrivalOf(circuit.b[line]) > arrivalOf(latest)) {
                latest = circuit.b[line];
            }
            if (arrivalOf(circuit.c[line]) > arrivalOf(latest)) {
                latest = circuit.c[line];
            }
            return latest;
        }
    }

    /** A circuit as it runs: values, what is pending, and the hazards since its start. */
    private static final class Run {
        private final Circuit circuit;
        private final int[] value = new int[WIRES];
        private final int[] changedAt = new int[WIRES];
        private final int[] timesChanged = new int[WIRES];
        private final int[] countedFrom = new int[WIRES];
        private final int[] pendingValue = new int[MOST_LINES];
        private final int[] pendingTime = new int[MOST_LINES];
        /** Of two that come at one time the one with the smaller turn was made so first. */
        private final int[] pendingTurn = new int[MOST_LINES];
        private final int[] riseAt = new int[MOST_LINES];
        private final int[] hazardCode = new int[MOST_HAZARDS];
        private final int[] hazardWire = new int[MOST_HAZARDS];
        private final int[] hazardTime = new int[MOST_HAZARDS];
        private int hazardCount;
        private int now;
        private int turns;
        private int swallowed;
        private int restless;
        private int changes;

        Run(Circuit itsCircuit) {
            circuit = itsCircuit;
            clear();
        }

        private void clear() {
            Arrays.fill(value, NOT_KNOWN);
            Arrays.fill(changedAt, NONE);
            Arrays.fill(riseAt, NONE);
            giveUpAll();
            beginCounting();
            hazardCount = 0;
            now = 0;
            turns = 0;
            swallowed = 0;
            restless = 0;
            changes = 0;
        }

        void copyFrom(Run other) {
            System.arraycopy(other.value, 0, value, 0, WIRES);
            System.arraycopy(other.changedAt, 0, changedAt, 0, WIRES);
            System.arraycopy(other.timesChanged, 0, timesChanged, 0, WIRES);
            System.arraycopy(other.countedFrom, 0, countedFrom, 0, WIRES);
            System.arraycopy(other.pendingValue, 0, pendingValue, 0, MOST_LINES);
            System.arraycopy(other.pendingTime, 0, pendingTime, 0, MOST_LINES);
            System.arraycopy(other.pendingTurn, 0, pendingTurn, 0, MOST_LINES);
            System.arraycopy(other.riseAt, 0, riseAt, 0, MOST_LINES);
            System.arraycopy(other.hazardCode, 0, hazardCode, 0, MOST_HAZARDS);
            System.arraycopy(other.hazardWire, 0, hazardWire, 0, MOST_HAZARDS);
            System.arraycopy(other.hazardTime, 0, hazardTime, 0, MOST_HAZARDS);
            hazardCount = other.hazardCount;
            now = other.now;
            turns = other.turns;
            swallowed = other.swallowed;
            restless = other.restless;
            changes = other.changes;
        }

        void begin() {
            clear();
            for (int line = 0; line < circuit.count; line++) {
                if (circuit.kind[line] == INPUT) {
                    change(circuit.wire[line], 0);
                }
            }
        }

        void put(int wire, int newValue) {
            beginCounting();
            change(wire, newValue);
        }

        /** Lets all come that is pending, notes what hazards that shows, and tells how many changes there were. */
        int comeToRest() {
            int changed = letCome(ANY_TIME);
            noteHazardsOfGates();
            beginCounting();
            return changed;
        }

        /** Lets all come that is pending up to a time, and tells how many changes there were. */
        int letCome(int until) {
            int before = changes;
            int line = nextLine(until);
            for (int came = 0; came < MOST_COMING && line != NONE; came++) {
                int coming = pendingValue[line];
                now = pendingTime[line];
                pendingValue[line] = NONE;
                change(circuit.wire[line], coming);
                line = nextLine(until);
            }
            if (line != NONE) {
                restless++;
                giveUpAll();
            }
            return changes - before;
        }

        private int nextLine(int until) {
            int next = NONE;
            for (int line = 0; line < circuit.count; line++) {
                if (pendingValue[line] != NONE && pendingTime[line] <= until
                        && (next == NONE || comesAheadOf(line, next))) {
                    next = line;
                }
            }
            return next;
        }

        private boolean comesAheadOf(int line, int other) {
            if (pendingTime[line] != pendingTime[other]) {
                return pendingTime[line] < pendingTime[other];
            }
            return pendingTurn[line] < pendingTurn[other];
        }

        int nextTime() {
            int next = nextLine(ANY_TIME);
            return next == NONE ? NONE : pendingTime[next];
        }

        int linesPending() {
            int lines = 0;
            for (int line = 0; line < circuit.count; line++) {
                if (pendingValue[line] != NONE) {
                    lines++;
                }
            }
            return lines;
        }

        private void giveUpAll() {
            Arrays.fill(pendingValue, NONE);
        }

        private void beginCounting() {
            Arrays.fill(timesChanged, 0);
            System.arraycopy(value, 0, countedFrom, 0, WIRES);
        }

        private void change(int wire, int newValue) {
            if (!isWire(wire) || value[wire] == newValue) {
                return;
            }
            int before = value[wire];
            value[wire] = newValue;
            changedAt[wire] = now;
            timesChanged[wire]++;
            changes++;
            for (int line = 0; line < circuit.count; line++) {
                if (!circuit.isUsedBy(wire, line)) {
                    continue;
                }
                if (circuit.kind[line] == REGISTER) {
                    askRegister(line, wire, before);
                } else {
                    askGate(line);
                }
            }
        }

        private void askGate(int line) {
            int v = worked(circuit.kind[line], valueOf(circuit.a[line]), valueOf(circuit.b[line]),
                    valueOf(circuit.c[line]));
            if (pendingValue[line] != NONE && pendingValue[line] != v) {
                pendingValue[line] = NONE;
                swallowed++;
            }
            if (pendingValue[line] == NONE && v != valueOf(circuit.wire[line])) {
                makePending(line, v);
            }
        }

        private void askRegister(int line, int changed, int before) {
            int reset = circuit.c[line];
            int clock = circuit.b[line];
            int data = circuit.a[line];
            if (changed == reset && valueOf(reset) == 1) {
                makePending(line, 0);
            }
            if (changed == clock && before == 0 && valueOf(clock) == 1 && (reset == NONE || valueOf(reset) == 0)) {
                rise(line);
            }
            if (changed == data && isRecent(riseAt[line], circuit.hold[line])) {
                noteHazard(EARLY_DATA, circuit.wire[line]);
                makePending(line, NOT_KNOWN);
            }
        }

        private void rise(int line) {
            int data = circuit.a[line];
            int d = valueOf(data);
            riseAt[line] = now;
            if (isWire(data) && isRecent(changedAt[data], circuit.setup[line])) {
                noteHazard(LATE_DATA, circuit.wire[line]);
                d = NOT_KNOWN;
            }
            makePending(line, d);
        }

        private boolean isRecent(int time, int window) {
            return time != NONE && time > now - window;
        }

        private void makePending(int line, int newValue) {
            pendingValue[line] = newValue;
            pendingTime[line] = now + circuit.delay[line];
            pendingTurn[line] = turns;
            turns++;
        }

        /** Written out, as calls may only go eight deep, and this one is the deepest. */
        private int valueOf(int wire) {
            return wire >= 0 && wire < WIRES ? value[wire] : NOT_KNOWN;
        }

        private void noteHazardsOfGates() {
            for (int wire = 0; wire < WIRES; wire++) {
                int line = circuit.firstLineOf(wire);
                if (line == NONE || !circuit.isGate(line)
                        || countedFrom[wire] == NOT_KNOWN || value[wire] == NOT_KNOWN) {
                    continue;
                }
                if (value[wire] == countedFrom[wire] && timesChanged[wire] > 0) {
                    noteHazard(CAME_BACK, wire);
                } else if (value[wire] != countedFrom[wire] && timesChanged[wire] >= 3) {
                    noteHazard(TO_AND_FRO, wire);
                }
            }
        }

        private void noteHazard(int code, int wire) {
            if (hazardCount < MOST_HAZARDS) {
                hazardCode[hazardCount] = code;
                hazardWire[hazardCount] = wire;
                hazardTime[hazardCount] = now;
                hazardCount++;
            }
        }

        private static int worked(int kind, int a, int b, int c) {
            switch (kind) {
                case NOT:
                    return turned(a);
                case SAME:
                    return a;
                case AND:
                    return both(a, b);
                case OR:
                    return either(a, b);
                case DIFFER:
                    return a == NOT_KNOWN || b == NOT_KNOWN ? NOT_KNOWN : a != b ? 1 : 0;
                case NOT_AND:
                    return turned(both(a, b));
                case NOT_OR:
                    return turned(either(a, b));
                case CHOOSE:
                    return chosen(a, b, c);
                default:
                    return NOT_KNOWN;
            }
        }

        private static int turned(int a) {
            return a == NOT_KNOWN ? NOT_KNOWN : 1 - a;
        }

        private static int both(int a, int b) {
            return a == 0 || b == 0 ? 0 : a == 1 && b == 1 ? 1 : NOT_KNOWN;
        }

        private static int either(int a, int b) {
            return a == 1 || b == 1 ? 1 : a == 0 && b == 0 ? 0 : NOT_KNOWN;
        }

        private static int chosen(int a, int b, int c) {
            if (a == NOT_KNOWN) {
                return b == c ? b : NOT_KNOWN;
            }
            return a == 1 ? b : c;
        }
    }
}
