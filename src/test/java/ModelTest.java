/**
 * Long runs of calls, right and wrong ones, on FoundryNine and on the Model side by side. The calls are
 * drawn from a row of numbers that is the same each time.
 */
public final class ModelTest {
    private static final Class<IllegalArgumentException> ARGUMENT = IllegalArgumentException.class;
    private static final Class<IndexOutOfBoundsException> INDEX = IndexOutOfBoundsException.class;
    private static final Class<IllegalStateException> STATE = IllegalStateException.class;
    private static final int[] WILD = {-1, -2, 24, 30, 40, 300, Integer.MAX_VALUE, Integer.MIN_VALUE};

    private static final Due due = new Due();
    private static final int[] hazardsSeen = new int[5];
    private static int restlessSeen = 0;
    private static int swallowedSeen = 0;
    private static int fullSeen = 0;
    private static int ringsSeen = 0;

    private long seed;
    private FoundryNine x;
    private Model m;
    private int run;
    private int calls;
    private int wildness;
    /** Whether it is a circuit of many hazards, that is let run on. */
    private boolean tight;

    private ModelTest(int run) {
        this.run = run;
        this.seed = run * 7919L + 17;
        this.x = new FoundryNine();
        this.m = new Model();
        this.wildness = run % 4 == 0 ? 8 : 60;
    }

    private int below(int n) {
        seed = seed * 6364136223846793005L + 1442695040888963407L;
        return (int) Math.floorMod(seed >>> 33, (long) n);
    }

    /** A number below n, or seldom one that does not fit. */
    private int some(int n) {
        if (below(wildness) == 0) {
            return below(3) == 0 ? n : WILD[below(WILD.length)];
        }
        return n <= 0 ? 0 : below(n);
    }

    private static boolean wire(int... wires) {
        for (int wire : wires) {
            if (wire < 0 || wire > 23) {
                return false;
            }
        }
        return true;
    }

    private boolean line(int line) {
        return line >= 0 && line < m.lines.size();
    }

    private boolean full() {
        return m.lines.size() == 30;
    }

    private static boolean to20(int n) {
        return n >= 0 && n <= 20;
    }

    private void expect(String text, Class<? extends RuntimeException> thrown, Due.Call got, Due.Call want) {
        calls++;
        String call = "run " + run + ", call " + calls + ": " + text;
        if (thrown != null) {
            due.isThrown(thrown, call, got);
        } else {
            due.is(call, got.answer(), want.answer());
        }
    }

    private void input(int w) {
        expect("input(" + w + ")", !wire(w) ? INDEX : full() ? STATE : null,
                () -> x.input(w), () -> m.add('i', -1, w, 0));
    }

    private void gate(int k, int w, int a, int b, int c, int delay) {
        boolean pins = wire(w, a) && (k < 2 || wire(b)) && (k < 7 || wire(c));
        int[] used = k < 2 ? new int[] {a} : k < 7 ? new int[] {a, b} : new int[] {a, b, c};
        expect("gate(" + k + ", " + w + ", " + a + ", " + b + ", " + c + ", " + delay + ")",
                k < 0 || k > 7 || !to20(delay) ? ARGUMENT : !pins ? INDEX : full() ? STATE : null,
                () -> x.gate(k, w, a, b, c, delay), () -> m.add('g', k, w, delay, used));
    }

    private void register(int w, int data, int clock, int reset, int delay) {
        int[] used = reset == -1 ? new int[] {data, clock} : new int[] {data, clock, reset};
        expect("register(" + w + ", " + data + ", " + clock + ", " + reset + ", " + delay + ")",
                !wire(w, data, clock) || reset != -1 && !wire(reset) ? INDEX
                        : !to20(delay) ? ARGUMENT : full() ? STATE : null,
                () -> x.register(w, data, clock, reset, delay), () -> m.add('r', -1, w, delay, used));
    }

    private void setWindow(int l, int setup, int hold) {
        expect("setWindow(" + l + ", " + setup + ", " + hold + ")",
                !line(l) ? INDEX : m.lines.get(l).sort != 'r' || !to20(setup) || !to20(hold) ? ARGUMENT : null,
                () -> x.setWindow(l, setup, hold), () -> {
                    int before = m.lines.get(l).setup;
                    m.lines.get(l).setup = setup;
                    m.lines.get(l).hold = hold;
                    return before;
                });
    }

    private void setDelay(int l, int delay) {
        expect("setDelay(" + l + ", " + delay + ")",
                !line(l) ? INDEX : m.lines.get(l).sort == 'i' || !to20(delay) ? ARGUMENT : null,
                () -> x.setDelay(l, delay), () -> {
                    int before = m.lines.get(l).delay;
                    m.lines.get(l).delay = delay;
                    return before;
                });
    }

    private boolean drivenByInput(int w) {
        for (Model.Line line : m.lines) {
            if (line.sort == 'i' && line.wire == w) {
                return true;
            }
        }
        return false;
    }

    private void set(int w, int v) {
        expect("set(" + w + ", " + v + ")",
                !m.runs ? STATE : !wire(w) ? INDEX : !drivenByInput(w) || v < 0 || v > 1 ? ARGUMENT : null,
                () -> x.set(w, v), () -> m.set(w, v));
    }

    private void wouldBe(int w, int v, int other) {
        expect("wouldBe(" + w + ", " + v + ", " + other + ")",
                !m.runs ? STATE : !wire(w, other) ? INDEX : !drivenByInput(w) || v < 0 || v > 1 ? ARGUMENT : null,
                () -> x.wouldBe(w, v, other), () -> m.wouldBe(w, v, other));
    }

    private void hazardsWith(int w, int v) {
        expect("hazardsWith(" + w + ", " + v + ")",
                !m.runs ? STATE : !wire(w) ? INDEX : !drivenByInput(w) || v < 0 || v > 1 ? ARGUMENT : null,
                () -> x.hazardsWith(w, v), () -> m.hazardsWith(w, v));
    }

    private void time() {
        int by = below(3) == 0 ? some(101) : below(6);
        switch (below(3)) {
            case 0 -> expect("pass(" + by + ")", !m.runs ? STATE : by < 0 || by > 100 ? ARGUMENT : null,
                    () -> x.pass(by), () -> m.pass(by));
            case 1 -> expect("settle()", !m.runs ? STATE : null, () -> x.settle(), () -> m.settle());
            default -> expect("settlesIn()", !m.runs ? STATE : null, () -> x.settlesIn(), () -> m.settlesIn());
        }
    }

    private void askWays() {
        int w = some(24);
        int place = below(4) == 0 ? some(26) : below(5);
        int flaw = some(m.flaws().size());
        int what = some(2);
        expect("flaws()", null, () -> x.flaws(), () -> m.flaws().size());
        expect("ofFlaw(" + flaw + ", " + what + ")",
                flaw < 0 || flaw >= m.flaws().size() ? INDEX : what < 0 || what > 1 ? ARGUMENT : null,
                () -> x.ofFlaw(flaw, what), () -> m.flaws().get(flaw)[what]);
        expect("arrival(" + w + ")", wire(w) ? null : INDEX, () -> x.arrival(w), () -> m.arrival(w));
        expect("users(" + w + ")", wire(w) ? null : INDEX, () -> x.users(w), () -> m.users(w));
        expect("longest()", null, () -> x.longest(), () -> m.longest());
        expect("way(" + place + ")", null, () -> x.way(place), () -> m.wayAt(place));
        due.is("run " + run + ": meanArrival()", x.meanArrival(), m.meanArrival());
        int l = some(m.lines.size());
        int delay = some(21);
        expect("longestWith(" + l + ", " + delay + ")",
                !line(l) ? INDEX : m.lines.get(l).sort == 'i' || !to20(delay) ? ARGUMENT : null,
                () -> x.longestWith(l, delay), () -> m.longestWith(l, delay));
    }

    private void askRun() {
        int w = some(24);
        int what = some(4);
        int of = some(6);
        int l = some(m.lines.size());
        int hazard = some(m.hazards.size());
        int whatOf = some(3);
        expect("lines()", null, () -> x.lines(), () -> m.lines.size());
        expect("isRunning()", null, () -> x.isRunning() ? 1 : 0, () -> m.runs ? 1 : 0);
        expect("told(" + of + ")", of < 0 || of > 5 ? ARGUMENT : null, () -> x.told(of), () -> m.told(of));
        expect("ofWire(" + w + ", " + what + ")", !wire(w) ? INDEX : what < 0 || what > 3 ? ARGUMENT : null,
                () -> x.ofWire(w, what), () -> m.ofWire(w, what));
        expect("pending(" + l + ")", line(l) ? null : INDEX, () -> x.pending(l), () -> m.pendingOf(l));
        expect("hazards()", null, () -> x.hazards(), () -> m.hazards.size());
        expect("ofHazard(" + hazard + ", " + whatOf + ")",
                hazard < 0 || hazard >= m.hazards.size() ? INDEX : whatOf < 0 || whatOf > 2 ? ARGUMENT : null,
                () -> x.ofHazard(hazard, whatOf), () -> m.ofHazard(hazard, whatOf));
    }

    private void addWild() {
        int delay = some(21);
        switch (below(3)) {
            case 0 -> input(some(24));
            case 1 -> gate(some(8), some(24), some(24), some(24), some(24), delay);
            default -> register(some(24), some(24), some(24), some(25) - 1, delay);
        }
    }

    /** Inputs first, then a gate or register for each further wire, so that it runs. */
    private void addCircuit() {
        int inputs = 2 + below(4);
        int wires = inputs + 1 + below(24 - inputs);
        int slow = below(3) == 0 ? 3 : 21;
        boolean rings = below(3) == 0;
        tight = below(3) == 0;
        for (int w = 0; w < wires; w++) {
            if (w < inputs) {
                input(w);
                continue;
            }
            int near = rings && below(4) == 0 ? wires : w;
            int a = below(near);
            int b = below(near);
            int c = below(near);
            if (tight && below(2) == 0) {
                int data = below(inputs);
                register(w, data, below(6) == 0 ? data : below(inputs), below(3) == 0 ? below(inputs) : -1, below(slow));
                setWindow(w, below(21), below(21));
            } else if (below(4) == 0) {
                register(w, a, below(2) == 0 ? below(inputs) : b, below(2) == 0 ? -1 : below(wires), below(slow));
                setWindow(w, below(2) == 0 ? 0 : below(21), below(2) == 0 ? 0 : below(21));
            } else if (rings && below(3) == 0) {
                gate(5 + below(2), w, below(inputs), below(3) == 0 ? w : b, 0, below(slow));
            } else {
                gate(below(8), w, a, b, c, below(slow));
            }
        }
    }

    private void runIt(int most) {
        expect("start()", m.mayRun() ? null : STATE, () -> x.start(), () -> m.start());
        while (calls < most) {
            int w = below(20) == 0 ? some(24) : below(6);
            int v = some(2);
            int l = some(m.lines.size());
            switch (below(12)) {
                case 0, 1, 2 -> set(w, v);
                case 3, 4, 5, 6 -> time();
                case 7 -> wouldBe(w, v, some(24));
                case 8 -> hazardsWith(w, v);
                case 9 -> setDelay(l, some(21));
                case 10 -> setWindow(l, tight ? 20 : some(21), tight ? 20 : some(21));
                default -> askRun();
            }
            if (below(12) == 0) {
                expect("digest()", null, () -> x.digest(), () -> m.digest());
            }
            if (!tight && below(90) == 0) {
                see();
                expect("start()", m.mayRun() ? null : STATE, () -> x.start(), () -> m.start());
            }
        }
        expect("digest()", null, () -> x.digest(), () -> m.digest());
    }

    private void all() {
        if (run % 5 == 0) {
            for (int i = 0; i < 35; i++) {
                addWild();
                askWays();
            }
            runIt(400);
        } else {
            addCircuit();
            askWays();
            runIt(300);
            see();
            addWild();
            askWays();
            askRun();
            runIt(480);
        }
        see();
    }

    private void see() {
        for (Model.Hazard h : m.hazards) {
            hazardsSeen[h.code()]++;
        }
        restlessSeen += m.restless;
        swallowedSeen += m.swallowed;
        fullSeen += m.hazards.size() == 40 ? 1 : 0;
        for (int[] flaw : m.flaws()) {
            ringsSeen += flaw[0] == 3 ? 1 : 0;
        }
    }

    public static void main(String[] args) {
        int runs = args.length == 0 ? 800 : Integer.parseInt(args[0]);
        for (int run = 1; run <= runs; run++) {
            new ModelTest(run).all();
        }
        for (int code = 1; code <= 4; code++) {
            due.isTrue("hazards of " + code + " are seldom in the runs: " + hazardsSeen[code], hazardsSeen[code] > 50);
        }
        due.isTrue("seldom restless: " + restlessSeen, restlessSeen > 100);
        due.isTrue("seldom swallowed: " + swallowedSeen, swallowedSeen > 100);
        due.isTrue("seldom full of hazards: " + fullSeen, fullSeen > 3);
        due.isTrue("seldom rings: " + ringsSeen, ringsSeen > 100);
        due.end();
    }
}
