/** Promises 14 to 23: running. */
public final class RunningTest {
    private static final Due due = new Due();
    private static final Class<IllegalArgumentException> ARGUMENT = IllegalArgumentException.class;
    private static final Class<IndexOutOfBoundsException> INDEX = IndexOutOfBoundsException.class;
    private static final Class<IllegalStateException> STATE = IllegalStateException.class;

    public static void main(String[] args) {
        gatesOfKnownAndNotKnown();
        start();
        startAnew();
        set();
        setOrder();
        pass();
        swallowing();
        oneByOne();
        toldAndThrows();
        restless();
        hazardsOfGates();
        hazardsOfTheEdgeWires();
        hazardsOfWhatIsNotKnown();
        registerRises();
        registerResets();
        registerWindows();
        registerOfOneWire();
        registerGivesUp();
        fortyHazards();
        asItWasLeft();
        due.end();
    }

    /** The wires 0 to 2 are inputs, 3 is a register that stays 2; so each pin can be 0, 1 and 2. */
    private static void gatesOfKnownAndNotKnown() {
        int[][] two = {
            {0, 0, 0, 0, 1, 2, 0, 2, 2},
            {0, 1, 2, 1, 1, 1, 2, 1, 2},
            {0, 1, 2, 1, 0, 2, 2, 2, 2},
            {1, 1, 1, 1, 0, 2, 1, 2, 2},
            {1, 0, 2, 0, 0, 0, 2, 0, 2},
        };
        for (int a = 0; a < 3; a++) {
            due.is("NOT " + a, worked(0, a, 2, 2), a == 2 ? 2 : 1 - a);
            due.is("SAME " + a, worked(1, a, 2, 2), a);
            for (int b = 0; b < 3; b++) {
                for (int kind = 2; kind <= 6; kind++) {
                    due.is(kind + " of " + a + " and " + b, worked(kind, a, b, 2), two[kind - 2][a * 3 + b]);
                }
                for (int c = 0; c < 3; c++) {
                    int want = a == 1 ? b : a == 0 ? c : b == c ? b : 2;
                    due.is("CHOOSE of " + a + ", " + b + ", " + c, worked(7, a, b, c), want);
                }
            }
        }
    }

    private static int worked(int kind, int a, int b, int c) {
        FoundryNine x = new FoundryNine();
        x.input(0);
        x.input(1);
        x.register(2, 0, 0, -1, 0);
        x.gate(kind, 4, a, b, c, 1);
        x.start();
        x.set(1, 1);
        x.settle();
        return x.ofWire(4, 0);
    }

    private static void start() {
        FoundryNine x = new FoundryNine();
        x.input(3);
        x.input(0);
        x.gate(0, 1, 0, 0, 0, 2);
        x.gate(0, 2, 1, 0, 0, 0);
        x.gate(3, 4, 0, 3, 0, 0);
        due.is("start()", x.start(), 2);
        due.is("isRunning()", x.isRunning(), true);
        due.is("the time", x.told(0), 0);
        due.is("pending", x.told(1), 2);
        due.is("comes next", x.told(2), 0);
        due.is("changes of inputs", x.told(5), 2);
        due.is("pending(0) of an input", x.pending(0), -1);
        due.is("pending(2)", x.pending(2), 1);
        due.is("pending(3)", x.pending(3), -1);
        due.is("pending(4)", x.pending(4), 0);
        due.is("an input is 0", x.ofWire(3, 0), 0);
        due.is("an input changed at 0", x.ofWire(3, 1), 0);
        due.is("an input changed once", x.ofWire(3, 2), 1);
        due.is("an input was 2", x.ofWire(3, 3), 2);
        due.is("a gate is 2", x.ofWire(1, 0), 2);
        due.is("a gate did not change", x.ofWire(1, 1), -1);
        due.is("settle()", x.settle(), 3);
        due.is("no hazards from 2", x.hazards(), 0);
        FoundryNine flawed = new FoundryNine();
        flawed.input(0);
        flawed.start();
        flawed.input(0);
        due.isThrown(STATE, "start() with two that drive", () -> flawed.start());
        due.is("isRunning() behind it", flawed.isRunning(), false);
        FoundryNine undriven = new FoundryNine();
        undriven.register(0, 0, 0, 1, 0);
        due.isThrown(STATE, "start() with none that drives", () -> undriven.start());
    }

    private static void startAnew() {
        FoundryNine x = new FoundryNine();
        x.input(0);
        x.input(1);
        x.register(2, 1, 0, -1, 9);
        x.gate(0, 3, 0, 0, 0, 3);
        x.setWindow(2, 20, 20);
        x.start();
        x.set(1, 1);
        x.set(0, 1);
        x.pass(1);
        due.is("hazards ahead", x.hazards(), 1);
        due.is("swallowed ahead", x.told(3), 1);
        due.is("start() anew", x.start(), 1);
        due.is("hazards", x.hazards(), 0);
        due.is("swallowed", x.told(3), 0);
        due.is("the time", x.told(0), 0);
        due.is("changes", x.told(5), 2);
        due.is("pending(2)", x.pending(2), -1);
        due.is("ofWire(0, 0)", x.ofWire(0, 0), 0);
        x.set(1, 1);
        due.is("a rise ahead of the start is forgotten", x.hazards(), 0);
        x.start();
        x.pass(19);
        x.set(0, 1);
        due.is("the change of an input at 0 counts at 19", x.hazards(), 1);
        x.start();
        x.pass(20);
        x.set(0, 1);
        due.is("but not at 20", x.hazards(), 0);
        x.start();
        x.setWindow(2, 0, 20);
        x.set(0, 1);
        x.pass(20);
        x.set(1, 1);
        due.is("hold is over", x.hazards(), 0);
        FoundryNine y = new FoundryNine();
        y.input(0);
        y.register(1, 1, 0, -1, 3);
        y.setWindow(1, 20, 20);
        y.start();
        y.set(0, 1);
        due.is("one that did not change changed at no time", y.hazards(), 0);
        due.is("and is 2", y.pending(1), 2);
        FoundryNine restless = new FoundryNine();
        restless.input(0);
        restless.gate(5, 1, 0, 1, 0, 0);
        restless.start();
        restless.settle();
        restless.set(0, 1);
        restless.settle();
        due.is("restless ahead", restless.told(4), 1);
        restless.start();
        due.is("restless anew", restless.told(4), 0);
    }

    private static void set() {
        FoundryNine x = new FoundryNine();
        x.input(0);
        x.gate(0, 1, 0, 0, 0, 2);
        due.isThrown(STATE, "set() ahead of start()", () -> x.set(24, 5));
        x.start();
        x.pass(1);
        due.is("set(0, 0)", x.set(0, 0), 0);
        due.is("set(0, 0) is no change", x.told(5), 1);
        due.is("but all begin to be counted", x.ofWire(0, 2), 0);
        due.is("with what they are", x.ofWire(0, 3), 0);
        due.is("it changed last at 0", x.ofWire(0, 1), 0);
        due.is("set(0, 1)", x.set(0, 1), 0);
        due.is("it changed last at 1", x.ofWire(0, 1), 1);
        due.is("it is counted", x.ofWire(0, 2), 1);
        due.is("from", x.ofWire(0, 3), 0);
        due.is("is", x.ofWire(0, 0), 1);
        due.is("set(0, 0) again", x.set(0, 0), 1);
        due.is("no time passes", x.told(0), 1);
        due.isThrown(INDEX, "set(24, 5)", () -> x.set(24, 5));
        due.isThrown(INDEX, "set(-1, 0)", () -> x.set(-1, 0));
        due.isThrown(ARGUMENT, "set(1, 0) of a gate", () -> x.set(1, 0));
        due.isThrown(ARGUMENT, "set(2, 0) of none", () -> x.set(2, 0));
        due.isThrown(ARGUMENT, "set(0, 2)", () -> x.set(0, 2));
        due.isThrown(ARGUMENT, "set(0, -1)", () -> x.set(0, -1));
        due.is("what threw began no counting", x.ofWire(0, 2), 1);
    }

    /** The lines are asked by numbers, and of those that come at one time the one made so first is first. */
    private static void setOrder() {
        FoundryNine x = new FoundryNine();
        x.input(0);
        x.input(1);
        x.gate(1, 2, 0, 0, 0, 5);
        x.gate(1, 3, 1, 0, 0, 4);
        x.register(4, 2, 3, -1, 1);
        x.start();
        x.settle();
        x.set(0, 1);
        x.pass(1);
        x.set(1, 1);
        x.settle();
        due.is("data came ahead of the clock", x.ofWire(4, 0), 1);
        x.start();
        x.settle();
        x.setDelay(2, 4);
        x.setDelay(3, 5);
        x.set(1, 1);
        x.pass(1);
        x.set(0, 1);
        x.settle();
        due.is("the clock came ahead of data", x.ofWire(4, 0), 0);
        FoundryNine z = new FoundryNine();
        z.input(0);
        z.gate(1, 1, 0, 0, 0, 3);
        z.gate(1, 2, 0, 0, 0, 3);
        z.register(3, 2, 1, -1, 1);
        z.register(4, 1, 2, -1, 1);
        z.start();
        z.settle();
        z.set(0, 1);
        z.settle();
        due.is("of one change the line 1 comes first", z.ofWire(3, 0), 0);
        due.is("and then the line 2", z.ofWire(4, 0), 1);
    }

    private static void pass() {
        FoundryNine x = new FoundryNine();
        x.input(0);
        x.gate(0, 1, 0, 0, 0, 3);
        x.gate(0, 2, 1, 0, 0, 0);
        x.gate(0, 3, 2, 0, 0, 100 / 5);
        due.isThrown(STATE, "pass() ahead of start()", () -> x.pass(-1));
        x.start();
        due.isThrown(ARGUMENT, "pass(-1)", () -> x.pass(-1));
        due.isThrown(ARGUMENT, "pass(101)", () -> x.pass(101));
        due.is("pass(0)", x.pass(0), 0);
        due.is("pass(2)", x.pass(2), 0);
        due.is("the time at 2", x.told(0), 2);
        due.is("pass(1) lets that come which comes then", x.pass(1), 2);
        due.is("it changed at", x.ofWire(2, 1), 3);
        due.is("pass(100)", x.pass(100), 1);
        due.is("the time at 103", x.told(0), 103);
        due.is("it came at 23", x.ofWire(3, 1), 23);
        due.is("nothing pending", x.told(2), -1);
        due.is("pass() begins no counting", x.ofWire(3, 2), 1);
        due.is("settle() of nothing", x.settle(), 0);
        due.is("the time stays", x.told(0), 103);
        due.is("settle() begins counting", x.ofWire(3, 2), 0);
        x.set(0, 1);
        due.is("settle()", x.settle(), 3);
        due.is("the time of what came last", x.told(0), 126);
    }

    private static void swallowing() {
        FoundryNine x = new FoundryNine();
        x.input(0);
        x.input(1);
        x.gate(3, 2, 0, 1, 0, 5);
        x.start();
        x.settle();
        x.set(0, 1);
        due.is("pending(2)", x.pending(2), 1);
        x.pass(2);
        x.set(1, 1);
        due.is("the same is pending already", x.told(2), 10);
        due.is("nothing is swallowed", x.told(3), 0);
        x.set(0, 0);
        x.set(1, 0);
        due.is("it is swallowed", x.told(3), 1);
        due.is("nothing is pending", x.pending(2), -1);
        due.is("settle()", x.settle(), 0);
        due.is("the time stays", x.told(0), 7);
        FoundryNine y = new FoundryNine();
        y.input(0);
        y.input(1);
        y.register(2, 0, 1, -1, 0);
        y.gate(7, 3, 0, 2, 1, 5);
        y.start();
        y.settle();
        due.is("3 is 0", y.ofWire(3, 0), 0);
        y.set(1, 1);
        y.pass(0);
        due.is("1 is pending", y.pending(3), 1);
        y.set(0, 1);
        due.is("another than both is not", y.told(3), 1);
        FoundryNine z = new FoundryNine();
        z.input(0);
        z.input(1);
        z.gate(7, 2, 0, 3, 1, 5);
        z.register(3, 0, 0, -1, 0);
        z.start();
        z.settle();
        z.set(1, 1);
        z.pass(1);
        due.is("1 is pending for 10", z.told(2), 10);
        z.set(0, 1);
        due.is("one is swallowed", z.told(3), 1);
        due.is("and 2 is pending", z.pending(2), 2);
    }

    /** What is made pending at the same time comes behind what was, even from a line of a smaller number. */
    private static void oneByOne() {
        FoundryNine x = new FoundryNine();
        x.input(0);
        x.gate(1, 1, 3, 0, 0, 0);
        x.gate(1, 2, 0, 0, 0, 2);
        x.gate(1, 3, 0, 0, 0, 2);
        x.register(4, 2, 1, -1, 0);
        x.gate(1, 5, 0, 0, 0, 2);
        x.register(6, 5, 1, -1, 0);
        x.start();
        x.settle();
        x.set(0, 1);
        x.settle();
        due.is("line 2 came ahead of the clock", x.ofWire(4, 0), 1);
        due.is("line 5, too, as it was made so first", x.ofWire(6, 0), 1);
    }

    private static void toldAndThrows() {
        FoundryNine x = new FoundryNine();
        due.isThrown(ARGUMENT, "told(-1)", () -> x.told(-1));
        due.isThrown(ARGUMENT, "told(6)", () -> x.told(6));
        due.isThrown(INDEX, "ofWire(24, 4)", () -> x.ofWire(24, 4));
        due.isThrown(INDEX, "ofWire(-1, 0)", () -> x.ofWire(-1, 0));
        due.isThrown(ARGUMENT, "ofWire(0, 4)", () -> x.ofWire(0, 4));
        due.isThrown(ARGUMENT, "ofWire(0, -1)", () -> x.ofWire(0, -1));
        due.isThrown(STATE, "settle() ahead of start()", () -> x.settle());
        x.input(0);
        due.is("pending(0)", x.pending(0), -1);
        due.isThrown(INDEX, "pending(1)", () -> x.pending(1));
        due.isThrown(INDEX, "pending(-1)", () -> x.pending(-1));
        due.isThrown(INDEX, "ofHazard(0, 0)", () -> x.ofHazard(0, 0));
        due.isThrown(INDEX, "ofHazard(-1, 3)", () -> x.ofHazard(-1, 3));
    }

    private static FoundryNine buzzer(int delay) {
        FoundryNine x = new FoundryNine();
        x.input(0);
        x.gate(5, 1, 0, 1, 0, delay);
        x.gate(1, 2, 0, 0, 0, 20);
        x.start();
        x.settle();
        x.set(0, 1);
        return x;
    }

    private static void restless() {
        FoundryNine x = buzzer(1);
        due.is("settle() of one that is restless", x.settle(), 300);
        due.is("restless", x.told(4), 1);
        due.is("the time of what came last", x.told(0), 20 + 299);
        due.is("all is given up", x.told(1), 0);
        due.is("it is not swallowed", x.told(3), 0);
        due.is("hazards are noted", x.hazards(), 1);
        due.is("2 of wire 1", x.ofHazard(0, 0), 2);
        due.is("wire", x.ofHazard(0, 1), 1);
        due.is("time", x.ofHazard(0, 2), 319);
        due.is("it begins to be counted", x.ofWire(1, 2), 0);
        due.isThrown(ARGUMENT, "ofHazard(0, 3)", () -> x.ofHazard(0, 3));
        due.isThrown(ARGUMENT, "ofHazard(0, -1)", () -> x.ofHazard(0, -1));
        due.isThrown(INDEX, "ofHazard(1, 3)", () -> x.ofHazard(1, 3));
        FoundryNine y = buzzer(0);
        due.is("pass(5) of one that is restless", y.pass(5), 300);
        due.is("the time is that then", y.told(0), 25);
        due.is("restless in pass()", y.told(4), 1);
        due.is("all is given up in pass()", y.told(1), 0);
        due.is("pass() notes no hazards", y.hazards(), 0);
        due.is("pass() begins no counting", y.ofWire(1, 2), 300);
        due.is("2 never came", y.ofWire(2, 0), 0);
        due.is("pass() behind it", y.pass(100), 0);
        due.is("settle() notes them", y.settle(), 0);
        due.is("1 of wire 1", y.ofHazard(0, 0), 1);
        due.is("at the time then", y.ofHazard(0, 2), 125);
        FoundryNine z = buzzer(1);
        for (int i = 0; i < 4; i++) {
            z.pass(100);
        }
        due.is("300 in several calls are not restless", z.told(4), 0);
        threeHundred(0, 300, 0);
        threeHundred(1, 300, 1);
    }

    /** A ring that comes three times each unit of time; with one more at the end of the last, or without. */
    private static void threeHundred(int more, int changes, int restless) {
        FoundryNine x = new FoundryNine();
        x.input(0);
        x.gate(5, 1, 0, 1, 0, 1);
        x.gate(1, 2, 1, 0, 0, 0);
        x.gate(1, 3, 2, 0, 0, 0);
        x.input(4);
        x.gate(1, 5, 4, 0, 0, 20);
        x.start();
        x.settle();
        x.set(0, 1);
        for (int i = 0; i < 4; i++) {
            x.pass(20);
        }
        if (more == 1) {
            x.set(4, 1);
        }
        due.is("pass() of " + more + " more than 300", x.pass(100), changes);
        due.is("restless of " + more, x.told(4), restless);
    }

    private static void hazardsOfGates() {
        FoundryNine x = new FoundryNine();
        x.input(0);
        x.gate(0, 1, 0, 0, 0, 2);
        x.gate(2, 2, 0, 1, 0, 0);
        x.gate(0, 10, 0, 0, 0, 4);
        x.gate(2, 11, 0, 10, 0, 0);
        x.gate(3, 12, 2, 11, 0, 0);
        x.gate(1, 13, 0, 0, 0, 8);
        x.gate(3, 14, 2, 13, 0, 0);
        x.start();
        x.settle();
        x.set(0, 1);
        x.settle();
        int[][] due1 = {{1, 2}, {1, 11}, {1, 12}, {2, 14}};
        due.is("hazards()", x.hazards(), due1.length);
        for (int i = 0; i < due1.length; i++) {
            due.is("ofHazard(" + i + ", 0)", x.ofHazard(i, 0), due1[i][0]);
            due.is("ofHazard(" + i + ", 1)", x.ofHazard(i, 1), due1[i][1]);
            due.is("ofHazard(" + i + ", 2)", x.ofHazard(i, 2), 16);
        }
        x.set(0, 0);
        x.pass(3);
        x.set(0, 1);
        due.is("an input that came back, too", x.hazards(), 4);
        x.set(0, 0);
        x.set(0, 1);
        x.settle();
        due.is("an input is no gate", x.ofHazard(x.hazards() - 1, 1) == 0, false);
    }

    private static void hazardsOfTheEdgeWires() {
        FoundryNine x = new FoundryNine();
        x.input(1);
        x.gate(0, 2, 1, 0, 0, 1);
        x.gate(2, 0, 1, 2, 0, 0);
        x.gate(2, 23, 1, 2, 0, 0);
        x.start();
        x.settle();
        x.set(1, 1);
        x.settle();
        due.is("hazards() of wires 0 and 23", x.hazards(), 2);
        due.is("of wire 0", x.ofHazard(0, 1), 0);
        due.is("of wire 23", x.ofHazard(1, 1), 23);
    }

    private static void hazardsOfWhatIsNotKnown() {
        FoundryNine x = new FoundryNine();
        x.input(0);
        x.input(1);
        x.register(2, 0, 1, -1, 0);
        x.gate(0, 3, 2, 0, 0, 0);
        x.setWindow(2, 20, 20);
        x.start();
        x.pass(50);
        x.set(0, 1);
        x.settle();
        x.pass(50);
        x.set(1, 1);
        x.pass(1);
        due.is("3 is known", x.ofWire(3, 0), 0);
        x.set(0, 0);
        due.is("hazard 4", x.hazards(), 1);
        x.settle();
        due.is("3 is not known", x.ofWire(3, 0), 2);
        due.is("none of one that is 2 now", x.hazards(), 1);
        x.set(1, 0);
        x.pass(100);
        x.set(1, 1);
        x.pass(50);
        x.set(1, 0);
        x.pass(50);
        due.is("3 is known again", x.ofWire(3, 0), 1);
        x.settle();
        due.is("none of one that was 2 then", x.hazards(), 1);
    }

    private static FoundryNine register(int setup, int hold, int delay) {
        FoundryNine x = new FoundryNine();
        x.input(0);
        x.input(1);
        x.input(2);
        x.register(3, 0, 1, 2, delay);
        x.setWindow(3, setup, hold);
        x.start();
        x.pass(30);
        return x;
    }

    private static void registerRises() {
        FoundryNine x = register(0, 0, 3);
        x.set(0, 1);
        due.is("data alone", x.pending(3), -1);
        x.set(1, 1);
        due.is("a rise", x.pending(3), 1);
        due.is("its time", x.told(2), 33);
        x.set(0, 0);
        due.is("data behind it", x.pending(3), 1);
        due.is("settle()", x.settle(), 1);
        x.set(1, 0);
        due.is("a fall", x.pending(3), -1);
        x.set(0, 1);
        x.set(1, 1);
        due.is("so already, but pending", x.pending(3), 1);
        due.is("it comes, and is no change", x.settle(), 0);
        due.is("the time of it", x.told(0), 36);
        due.is("it changed at", x.ofWire(3, 1), 33);
        x.set(1, 0);
        x.set(2, 1);
        x.settle();
        x.set(1, 1);
        due.is("no rise with reset", x.pending(3), -1);
        due.is("hazards() of a register", x.hazards(), 0);
        FoundryNine y = new FoundryNine();
        y.input(0);
        y.input(1);
        y.register(2, 0, 1, -1, 0);
        y.gate(1, 4, 2, 0, 0, 0);
        y.register(3, 0, 4, -1, 0);
        y.register(5, 0, 1, 2, 0);
        y.start();
        y.set(0, 1);
        y.set(1, 1);
        due.is("no rise with a reset that is not known", y.pending(5), -1);
        y.settle();
        due.is("from 2 to 1", y.ofWire(4, 0), 1);
        due.is("is no rise", y.ofWire(3, 0), 2);
    }

    private static void registerResets() {
        FoundryNine x = register(0, 0, 5);
        x.set(0, 1);
        x.set(1, 1);
        x.pass(2);
        x.set(2, 1);
        due.is("reset", x.pending(3), 0);
        due.is("from now", x.told(2), 37);
        due.is("given up, not swallowed", x.told(3), 0);
        due.is("settle()", x.settle(), 1);
        due.is("0", x.ofWire(3, 0), 0);
        x.set(2, 0);
        due.is("reset gone", x.pending(3), -1);
        x.set(2, 1);
        due.is("0 is pending, also if it is so", x.pending(3), 0);
        FoundryNine y = new FoundryNine();
        y.input(0);
        y.input(1);
        y.register(2, 0, 1, 0, 4);
        y.setWindow(2, 20, 20);
        y.start();
        y.pass(50);
        y.set(1, 1);
        due.is("data and reset are one: 0", y.pending(2), 0);
        y.pass(1);
        y.set(0, 1);
        due.is("reset first, then data", y.pending(2), 2);
        due.is("hazard 4 of it", y.ofHazard(0, 0), 4);
    }

    private static void registerWindows() {
        for (int setup = 0; setup <= 20; setup += 5) {
            for (int gap = 0; gap <= 21; gap++) {
                FoundryNine x = register(setup, 0, 2);
                x.set(0, 1);
                x.pass(gap);
                x.set(1, 1);
                boolean late = gap < setup;
                due.is("setup " + setup + ", gap " + gap + ": hazards()", x.hazards(), late ? 1 : 0);
                due.is("setup " + setup + ", gap " + gap + ": pending(3)", x.pending(3), late ? 2 : 1);
                if (late) {
                    due.is("hazard 3: code", x.ofHazard(0, 0), 3);
                    due.is("hazard 3: wire", x.ofHazard(0, 1), 3);
                    due.is("hazard 3: time", x.ofHazard(0, 2), 30 + gap);
                }
            }
        }
        for (int hold = 0; hold <= 20; hold += 5) {
            for (int gap = 0; gap <= 21; gap++) {
                FoundryNine x = register(0, hold, 2);
                x.set(1, 1);
                x.pass(gap);
                x.set(1, 0);
                x.set(0, 1);
                boolean early = gap < hold;
                due.is("hold " + hold + ", gap " + gap + ": hazards()", x.hazards(), early ? 1 : 0);
                due.is("hold " + hold + ", gap " + gap + ": pending(3)", x.pending(3), early ? 2 : gap < 2 ? 0 : -1);
                if (early) {
                    due.is("hazard 4: code", x.ofHazard(0, 0), 4);
                    due.is("hazard 4: wire", x.ofHazard(0, 1), 3);
                    due.is("hazard 4: time", x.ofHazard(0, 2), 30 + gap);
                }
            }
        }
        FoundryNine x = register(0, 5, 2);
        x.set(1, 1);
        x.set(1, 0);
        x.pass(10);
        x.set(1, 1);
        x.pass(4);
        x.set(0, 1);
        due.is("the latest rise counts", x.hazards(), 1);
        x.pass(1);
        x.set(0, 0);
        due.is("hold is over", x.hazards(), 1);
        x.setWindow(3, 0, 6);
        x.set(0, 1);
        due.is("a hold that is set while it runs", x.hazards(), 2);
    }

    private static void registerOfOneWire() {
        int[][] windows = {{0, 0}, {1, 0}, {0, 1}, {1, 1}};
        int[] hazards = {0, 1, 1, 2};
        int[] value = {1, 2, 2, 2};
        for (int i = 0; i < windows.length; i++) {
            FoundryNine x = new FoundryNine();
            x.input(0);
            x.register(1, 0, 0, -1, 1);
            x.setWindow(1, windows[i][0], windows[i][1]);
            x.start();
            x.pass(40);
            x.set(0, 1);
            due.is("one wire, " + i + ": hazards()", x.hazards(), hazards[i]);
            due.is("one wire, " + i + ": pending(1)", x.pending(1), value[i]);
            if (i == 3) {
                due.is("one wire: clock first", x.ofHazard(0, 0), 3);
                due.is("one wire: then data", x.ofHazard(1, 0), 4);
            }
        }
        FoundryNine y = new FoundryNine();
        y.input(0);
        y.input(1);
        y.register(2, 1, 0, 0, 1);
        y.start();
        y.set(1, 1);
        y.set(0, 1);
        due.is("clock and reset are one: no rise", y.pending(2), 0);
        y.setWindow(2, 20, 20);
        y.set(1, 0);
        due.is("clock and reset are one: no rise was", y.hazards(), 0);
    }

    private static void registerGivesUp() {
        FoundryNine x = register(0, 0, 5);
        x.set(0, 1);
        x.set(1, 1);
        x.pass(1);
        x.set(1, 0);
        x.set(1, 1);
        due.is("the same anew, and later", x.told(2), 36);
        due.is("one is pending", x.told(1), 1);
        due.is("nothing is swallowed", x.told(3), 0);
        FoundryNine y = new FoundryNine();
        y.input(0);
        y.input(1);
        y.input(2);
        y.register(3, 1, 0, -1, 4);
        y.gate(1, 4, 2, 0, 0, 4);
        y.register(5, 4, 3, -1, 0);
        y.start();
        y.settle();
        y.set(0, 1);
        y.settle();
        y.set(0, 0);
        y.set(1, 1);
        y.set(0, 1);
        y.set(2, 1);
        y.set(0, 0);
        y.set(0, 1);
        y.settle();
        due.is("made so anew, it comes behind the gate", y.ofWire(5, 0), 1);
    }

    private static void fortyHazards() {
        FoundryNine x = register(20, 20, 0);
        for (int i = 0; i < 30; i++) {
            x.set(0, 1 - i % 2);
            x.set(1, 1);
            x.set(1, 0);
        }
        due.is("hazards() of many", x.hazards(), 40);
        due.isThrown(INDEX, "ofHazard(40, 0)", () -> x.ofHazard(40, 0));
        due.is("ofHazard(39, 0)", x.ofHazard(39, 0) >= 3, true);
        x.settle();
        x.set(2, 1);
        x.settle();
        due.is("reset", x.ofWire(3, 0), 0);
        x.set(2, 0);
        x.set(0, 1);
        x.set(0, 0);
        due.is("what makes 2 of a value does so past them, too", x.pending(3), 2);
        due.is("but none is noted", x.hazards(), 40);
        due.is("nor would be", x.hazardsWith(0, 1), 0);
    }

    private static void asItWasLeft() {
        FoundryNine x = register(20, 20, 4);
        x.gate(1, 4, 3, 0, 0, 1);
        due.is("isRunning()", x.isRunning(), false);
        x.start();
        x.set(0, 1);
        x.set(1, 1);
        x.pass(2);
        x.input(5);
        due.is("hazards() as left", x.hazards(), 1);
        due.is("ofHazard(0, 0) as left", x.ofHazard(0, 0), 3);
        due.is("ofHazard(0, 1) as left", x.ofHazard(0, 1), 3);
        due.is("ofHazard(0, 2) as left", x.ofHazard(0, 2), 0);
        due.is("pending(3) as left", x.pending(3), 2);
        due.is("told(0) as left", x.told(0), 2);
        due.is("told(1) as left", x.told(1), 1);
        due.is("told(2) as left", x.told(2), 4);
        due.is("told(5) as left", x.told(5), 5);
        due.is("ofWire(0, 0) as left", x.ofWire(0, 0), 1);
        due.is("ofWire(5, 0) as left", x.ofWire(5, 0), 2);
    }
}
