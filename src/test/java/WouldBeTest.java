/** Promises 24 to 29: what would be, and the digest. */
public final class WouldBeTest {
    private static final Due due = new Due();
    private static final Class<IllegalArgumentException> ARGUMENT = IllegalArgumentException.class;
    private static final Class<IndexOutOfBoundsException> INDEX = IndexOutOfBoundsException.class;
    private static final Class<IllegalStateException> STATE = IllegalStateException.class;

    public static void main(String[] args) {
        wouldBe();
        wouldBeInOrder();
        trialsOfNow();
        hazardsWith();
        settlesIn();
        longestWith();
        meanArrival();
        digest();
        due.end();
    }

    private static FoundryNine circuit() {
        FoundryNine x = new FoundryNine();
        x.input(0);
        x.gate(0, 1, 0, 0, 0, 2);
        x.gate(2, 2, 0, 1, 0, 1);
        x.register(3, 1, 0, -1, 3);
        x.setWindow(3, 5, 5);
        x.start();
        return x;
    }

    private static void wouldBe() {
        FoundryNine x = circuit();
        long before = digestOf(x);
        due.is("wouldBe(0, 1, 0)", x.wouldBe(0, 1, 0), 1);
        due.is("wouldBe(0, 1, 1)", x.wouldBe(0, 1, 1), 0);
        due.is("wouldBe(0, 0, 1)", x.wouldBe(0, 0, 1), 1);
        due.is("wouldBe(0, 1, 3)", x.wouldBe(0, 1, 3), 2);
        due.is("wouldBe(0, 1, 23)", x.wouldBe(0, 1, 23), 2);
        due.is("wouldBe() changes nothing", digestOf(x), before);
        due.isThrown(INDEX, "wouldBe(24, 2, 0)", () -> x.wouldBe(24, 2, 0));
        due.isThrown(INDEX, "wouldBe(-1, 0, 0)", () -> x.wouldBe(-1, 0, 0));
        due.isThrown(INDEX, "wouldBe(1, 2, 24)", () -> x.wouldBe(1, 2, 24));
        due.isThrown(INDEX, "wouldBe(0, 0, -1)", () -> x.wouldBe(0, 0, -1));
        due.isThrown(ARGUMENT, "wouldBe(1, 0, 0)", () -> x.wouldBe(1, 0, 0));
        due.isThrown(ARGUMENT, "wouldBe(0, 2, 0)", () -> x.wouldBe(0, 2, 0));
        due.isThrown(ARGUMENT, "wouldBe(0, -1, 0)", () -> x.wouldBe(0, -1, 0));
        due.is("throwing changes nothing", digestOf(x), before);
        x.input(4);
        due.isThrown(STATE, "wouldBe(24, 2, 24)", () -> x.wouldBe(24, 2, 24));
    }

    /** What is pending at one time comes in the order in which it was made so, also in a trial behind another. */
    private static void wouldBeInOrder() {
        FoundryNine x = new FoundryNine();
        x.input(0);
        x.input(1);
        x.input(9);
        x.gate(1, 2, 0, 0, 0, 5);
        x.gate(1, 3, 1, 0, 0, 5);
        x.register(4, 2, 3, -1, 0);
        x.start();
        x.settle();
        x.pass(1);
        x.set(0, 1);
        x.set(1, 1);
        due.is("data ahead of the clock", x.wouldBe(9, 1, 4), 1);
        x.start();
        x.settle();
        x.pass(1);
        x.set(1, 1);
        x.set(0, 1);
        due.is("the clock ahead of data", x.wouldBe(9, 1, 4), 0);
        due.is("the clock ahead of an input's data", x.wouldBe(0, 0, 4), 0);
        x.settle();
        due.is("so it is", x.ofWire(4, 0), 0);
    }

    /** A trial is one of what is now: of what changed, rose and is pending, and of how often it was restless. */
    private static void trialsOfNow() {
        FoundryNine x = circuit();
        x.settle();
        x.pass(50);
        due.is("settlesIn() of nothing", x.settlesIn(), 0);
        x.wouldBe(0, 1, 1);
        due.is("settlesIn() of nothing, behind wouldBe()", x.settlesIn(), 0);
        x.set(0, 1);
        x.settle();
        x.set(0, 0);
        x.pass(2);
        due.is("data changed now: hazard 3", x.hazardsWith(0, 1), 3);
        x.pass(5);
        due.is("data changed long ago: none", x.hazardsWith(0, 1), 2);
        x.gate(5, 5, 0, 5, 0, 1);
        x.start();
        x.settle();
        x.pass(50);
        x.set(0, 1);
        due.is("settlesIn() of one that would be restless", x.settlesIn(), -1);
        x.settle();
        due.is("told(4)", x.told(4), 1);
        due.is("settlesIn() of one that was restless", x.settlesIn(), 0);
        x.set(0, 0);
        due.is("settlesIn() of one that rests again", x.settlesIn(), 2);
    }

    private static void hazardsWith() {
        FoundryNine x = circuit();
        x.settle();
        x.pass(50);
        long before = digestOf(x);
        due.is("hazardsWith(0, 0)", x.hazardsWith(0, 0), 0);
        due.is("hazardsWith(0, 1): 1 of wire 2, and 4", x.hazardsWith(0, 1), 2);
        due.is("hazardsWith() changes nothing", digestOf(x), before);
        x.set(0, 1);
        due.is("hazardsWith(0, 0) of what is swallowed", x.hazardsWith(0, 0), 0);
        due.is("hazardsWith(0, 1) begins to count, but what is pending comes", x.hazardsWith(0, 1), 2);
        x.settle();
        due.is("hazards()", x.hazards(), 2);
        due.is("hazardsWith(0, 1) of no change", x.hazardsWith(0, 1), 0);
        x.set(0, 0);
        x.settle();
        x.pass(50);
        due.is("those that are noted do not count", x.hazardsWith(0, 1), 2);
        due.isThrown(INDEX, "hazardsWith(24, 2)", () -> x.hazardsWith(24, 2));
        due.isThrown(ARGUMENT, "hazardsWith(2, 0)", () -> x.hazardsWith(2, 0));
        due.isThrown(ARGUMENT, "hazardsWith(0, 2)", () -> x.hazardsWith(0, 2));
        due.isThrown(ARGUMENT, "hazardsWith(5, 0)", () -> x.hazardsWith(5, 0));
        x.input(4);
        due.isThrown(STATE, "hazardsWith(24, 2)", () -> x.hazardsWith(24, 2));
    }

    private static void settlesIn() {
        FoundryNine x = circuit();
        due.is("settlesIn()", x.settlesIn(), 2);
        x.pass(1);
        due.is("settlesIn() behind 1", x.settlesIn(), 1);
        long before = digestOf(x);
        x.settlesIn();
        due.is("settlesIn() changes nothing", digestOf(x), before);
        x.settle();
        due.is("settlesIn() of nothing", x.settlesIn(), 0);
        x.set(0, 1);
        due.is("settlesIn() with what comes of it", x.settlesIn(), 5);
        x.gate(5, 5, 0, 5, 0, 0);
        due.isThrown(STATE, "settlesIn() behind a line", () -> x.settlesIn());
        x.start();
        x.settle();
        x.set(0, 1);
        due.is("settlesIn() of one that would be restless", x.settlesIn(), -1);
        due.is("told(4)", x.told(4), 0);
        x.settle();
        due.is("settlesIn() behind one", x.settlesIn(), 0);
    }

    private static void longestWith() {
        FoundryNine x = new FoundryNine();
        x.input(0);
        x.gate(0, 1, 0, 0, 0, 4);
        x.register(2, 1, 0, -1, 6);
        x.gate(0, 3, 2, 0, 0, 1);
        long before = digestOf(x);
        due.is("longest()", x.longest(), 7);
        due.is("longestWith(1, 20)", x.longestWith(1, 20), 20);
        due.is("longestWith(1, 0)", x.longestWith(1, 0), 7);
        due.is("longestWith(2, 0)", x.longestWith(2, 0), 4);
        due.is("longestWith(2, 20)", x.longestWith(2, 20), 21);
        due.is("longestWith(3, 6)", x.longestWith(3, 6), 12);
        due.is("longest() stays", x.longest(), 7);
        due.is("longestWith() changes nothing", digestOf(x), before);
        due.isThrown(INDEX, "longestWith(4, 21)", () -> x.longestWith(4, 21));
        due.isThrown(INDEX, "longestWith(-1, 0)", () -> x.longestWith(-1, 0));
        due.isThrown(ARGUMENT, "longestWith(0, 0)", () -> x.longestWith(0, 0));
        due.isThrown(ARGUMENT, "longestWith(1, 21)", () -> x.longestWith(1, 21));
        due.isThrown(ARGUMENT, "longestWith(1, -1)", () -> x.longestWith(1, -1));
        x.gate(0, 1, 0, 0, 0, 5);
        due.is("longestWith() of a line that does not count", x.longestWith(4, 20), 7);
    }

    private static void meanArrival() {
        FoundryNine x = new FoundryNine();
        x.gate(0, 9, 9, 0, 0, 3);
        due.is("meanArrival() of a ring", x.meanArrival(), 0.0);
        x.input(0);
        due.is("meanArrival() of 0", x.meanArrival(), 0.0);
        x.gate(0, 1, 0, 0, 0, 4);
        due.is("meanArrival() of 0 and 4", x.meanArrival(), 2.0);
        x.gate(0, 2, 5, 0, 0, 1);
        due.is("meanArrival() of 0, 4 and 1, not cut", x.meanArrival(), 5.0 / 3.0);
        x.gate(0, 1, 0, 0, 0, 20);
        due.is("meanArrival() counts each wire once", x.meanArrival(), 5.0 / 3.0);
    }

    private static void digest() {
        FoundryNine x = new FoundryNine();
        due.is("digest() of a new one", x.digest(), digestOf(x));
        x.gate(0, 1, 0, 0, 0, 3);
        due.is("digest() with a flaw", x.digest(), digestOf(x));
        x.input(0);
        x.gate(2, 2, 0, 1, 0, 1);
        x.gate(5, 4, 0, 4, 0, 0);
        x.register(3, 1, 0, -1, 3);
        x.setWindow(4, 20, 20);
        due.is("digest() ahead of start()", x.digest(), digestOf(x));
        x.start();
        due.is("digest() as it runs", x.digest(), digestOf(x));
        x.settle();
        x.set(0, 1);
        due.is("digest() of one that would be restless", x.digest(), digestOf(x));
        x.pass(1);
        x.settle();
        due.is("digest() with hazards", x.digest(), digestOf(x));
        x.set(0, 0);
        x.input(9);
        due.is("digest() as it was left", x.digest(), digestOf(x));
        due.is("digest() changes nothing", x.digest(), digestOf(x));
    }

    private static long digestOf(FoundryNine x) {
        long d = 58070;
        d = d * 31 + x.lines();
        d = d * 31 + x.flaws();
        d = d * 31 + x.longest();
        d = d * 31 + (x.isRunning() ? 1 : 0);
        for (int what = 0; what < 6; what++) {
            d = d * 31 + x.told(what);
        }
        for (int flaw = 0; flaw < x.flaws(); flaw++) {
            d = d * 31 + x.ofFlaw(flaw, 0);
            d = d * 31 + x.ofFlaw(flaw, 1);
        }
        for (int place = 0; place < 6; place++) {
            d = d * 31 + x.way(place);
        }
        for (int wire = 0; wire < 24; wire++) {
            d = d * 31 + x.arrival(wire);
            d = d * 31 + x.users(wire);
            for (int what = 0; what < 4; what++) {
                d = d * 31 + x.ofWire(wire, what);
            }
        }
        for (int line = 0; line < x.lines(); line++) {
            d = d * 31 + x.pending(line);
        }
        d = d * 31 + x.hazards();
        for (int hazard = 0; hazard < x.hazards(); hazard++) {
            for (int what = 0; what < 3; what++) {
                d = d * 31 + x.ofHazard(hazard, what);
            }
        }
        return x.isRunning() ? d * 31 + x.settlesIn() : d;
    }
}
