/** Promises 8 to 13: flaws, arrivals and ways. */
public final class WaysTest {
    private static final Due due = new Due();
    private static final Class<IllegalArgumentException> ARGUMENT = IllegalArgumentException.class;
    private static final Class<IndexOutOfBoundsException> INDEX = IndexOutOfBoundsException.class;

    public static void main(String[] args) {
        flawsInOrder();
        ofFlawThrows();
        rings();
        ringsOfEachOrder();
        ringsThroughLaterLines();
        arrivals();
        theFirstLineCounts();
        longestAndWay();
        wayOfEquals();
        users();
        due.end();
    }

    private static void flaw(FoundryNine x, int flaw, int code, int place) {
        due.is("ofFlaw(" + flaw + ", 0)", x.ofFlaw(flaw, 0), code);
        due.is("ofFlaw(" + flaw + ", 1)", x.ofFlaw(flaw, 1), place);
    }

    private static void flawsInOrder() {
        FoundryNine x = new FoundryNine();
        x.gate(0, 5, 5, 0, 0, 1);
        x.input(9);
        x.input(9);
        x.input(9);
        x.gate(2, 4, 23, 12, 0, 1);
        x.register(3, 0, 9, 2, 1);
        x.gate(0, 9, 5, 0, 0, 0);
        x.gate(1, 11, 11, 0, 0, 0);
        due.is("flaws()", x.flaws(), 7);
        flaw(x, 0, 2, 0);
        flaw(x, 1, 2, 2);
        flaw(x, 2, 1, 9);
        flaw(x, 3, 2, 12);
        flaw(x, 4, 2, 23);
        flaw(x, 5, 3, 0);
        flaw(x, 6, 3, 7);
        x.input(12);
        due.is("flaws() with one less", x.flaws(), 6);
        due.isThrown(IllegalStateException.class, "start() with flaws", () -> x.start());
        due.is("isRunning() behind it", x.isRunning(), false);
    }

    private static void ofFlawThrows() {
        FoundryNine x = new FoundryNine();
        due.isThrown(INDEX, "ofFlaw(0, 0) of none", () -> x.ofFlaw(0, 0));
        x.gate(0, 1, 0, 0, 0, 0);
        due.isThrown(INDEX, "ofFlaw(-1, 0)", () -> x.ofFlaw(-1, 0));
        due.isThrown(INDEX, "ofFlaw(1, 0)", () -> x.ofFlaw(1, 0));
        due.isThrown(INDEX, "ofFlaw(1, 2)", () -> x.ofFlaw(1, 2));
        due.isThrown(ARGUMENT, "ofFlaw(0, 2)", () -> x.ofFlaw(0, 2));
        due.isThrown(ARGUMENT, "ofFlaw(0, -1)", () -> x.ofFlaw(0, -1));
    }

    private static void rings() {
        FoundryNine x = new FoundryNine();
        x.input(0);
        x.gate(2, 1, 0, 3, 0, 1);
        x.gate(1, 2, 1, 0, 0, 1);
        x.gate(7, 3, 0, 0, 2, 1);
        x.gate(0, 4, 3, 0, 0, 1);
        x.register(5, 6, 0, -1, 2);
        x.gate(0, 6, 5, 0, 0, 3);
        x.register(7, 4, 0, -1, 7);
        due.is("flaws() of a ring", x.flaws(), 3);
        flaw(x, 0, 3, 1);
        flaw(x, 1, 3, 2);
        flaw(x, 2, 3, 3);
        due.is("arrival in a ring", x.arrival(2), -1);
        due.is("arrival behind a ring", x.arrival(4), -1);
        due.is("arrival of a register in a circle", x.arrival(5), 2);
        due.is("arrival behind a register", x.arrival(6), 5);
        due.is("arrival of a register behind a ring", x.arrival(7), 7);
        due.is("a ring may run", x.start(), 1);
    }

    /** A ring of the wires 0, 5 and 23, line by line in each order, and gates that have but one pin behind it. */
    private static void ringsOfEachOrder() {
        int[][] orders = {{0, 5, 23}, {0, 23, 5}, {5, 0, 23}, {5, 23, 0}, {23, 0, 5}, {23, 5, 0}};
        for (int[] order : orders) {
            FoundryNine x = new FoundryNine();
            for (int wire : order) {
                x.gate(1, wire, wire == 0 ? 5 : wire == 5 ? 23 : 0, 0, 0, 1);
            }
            x.input(1);
            x.gate(7, 10, 0, 1, 1, 1);
            x.gate(7, 11, 1, 5, 1, 1);
            x.gate(7, 12, 1, 1, 23, 1);
            x.gate(7, 13, 1, 12, 1, 1);
            due.is("flaws() of a ring of three", x.flaws(), 3);
            for (int i = 0; i < 3; i++) {
                flaw(x, i, 3, i);
                due.is("arrival in a ring of three", x.arrival(order[i]), -1);
                due.is("arrival with a pin in a ring", x.arrival(10 + i), -1);
            }
            due.is("arrival behind one behind a ring", x.arrival(13), -1);
            due.is("longest() of it", x.longest(), 0);
        }
    }

    private static void ringsThroughLaterLines() {
        FoundryNine x = new FoundryNine();
        x.input(0);
        x.input(1);
        x.gate(0, 2, 1, 0, 0, 4);
        x.gate(0, 1, 2, 0, 0, 1);
        due.is("flaws() with a later line in a ring", x.flaws(), 3);
        flaw(x, 0, 1, 1);
        flaw(x, 1, 3, 2);
        flaw(x, 2, 3, 3);
        due.is("arrival, the first line an input", x.arrival(1), 0);
        due.is("arrival of a gate in that ring", x.arrival(2), -1);
        FoundryNine y = new FoundryNine();
        y.gate(0, 1, 0, 0, 0, 6);
        y.gate(0, 1, 1, 0, 0, 1);
        due.is("arrival, a later line in a ring of its own", y.arrival(1), 6);
        flaw(y, 0, 2, 0);
        flaw(y, 1, 1, 1);
        flaw(y, 2, 3, 1);
    }

    private static void arrivals() {
        FoundryNine x = new FoundryNine();
        x.gate(7, 10, 3, 2, 1, 4);
        x.gate(0, 1, 2, 0, 0, 20);
        x.gate(0, 2, 3, 0, 0, 3);
        x.input(3);
        due.is("arrival of an input", x.arrival(3), 0);
        due.is("arrival of one told behind it", x.arrival(2), 3);
        due.is("arrival of two", x.arrival(1), 23);
        due.is("arrival by c", x.arrival(10), 27);
        due.is("arrival of one that nobody drives", x.arrival(20), 0);
        x.gate(2, 11, 1, 10, 0, 0);
        x.gate(2, 12, 10, 1, 0, 0);
        due.is("arrival by b", x.arrival(11), 27);
        due.is("arrival by a", x.arrival(12), 27);
        due.isThrown(INDEX, "arrival(-1)", () -> x.arrival(-1));
        due.isThrown(INDEX, "arrival(24)", () -> x.arrival(24));
        FoundryNine chain = new FoundryNine();
        for (int wire = 0; wire < 23; wire++) {
            chain.gate(1, wire, wire + 1, 0, 0, 20);
        }
        due.is("arrival of a chain", chain.arrival(0), 460);
        due.is("longest of a chain", chain.longest(), 460);
        due.is("way(22) of a chain", chain.way(22), 22);
        due.is("way(23) of a chain", chain.way(23), 23);
        due.is("way(24) of a chain", chain.way(24), -1);
    }

    private static void theFirstLineCounts() {
        FoundryNine x = new FoundryNine();
        x.gate(0, 1, 0, 0, 0, 2);
        x.register(1, 0, 0, -1, 9);
        x.gate(0, 2, 1, 0, 0, 1);
        x.register(2, 0, 0, -1, 15);
        due.is("arrival by the first line", x.arrival(1), 2);
        due.is("arrival behind the first line", x.arrival(2), 3);
        due.is("longest by the first lines", x.longest(), 3);
        due.is("way(0) by the first lines", x.way(0), 2);
        due.is("way(1) by the first lines", x.way(1), 1);
        due.is("way(2) by the first lines", x.way(2), 0);
        due.is("way(3) by the first lines", x.way(3), -1);
        x.input(3);
        x.gate(0, 3, 2, 0, 0, 20);
        due.is("arrival by an input ahead of a gate", x.arrival(3), 0);
    }

    private static void longestAndWay() {
        FoundryNine x = new FoundryNine();
        x.input(0);
        x.register(8, 6, 0, -1, 9);
        x.gate(2, 6, 0, 8, 0, 5);
        x.gate(7, 4, 0, 6, 8, 0);
        due.is("longest()", x.longest(), 14);
        due.is("way(0): the smallest of several", x.way(0), 4);
        due.is("way(1)", x.way(1), 6);
        due.is("way(2): a register ends it", x.way(2), 8);
        due.is("way(3)", x.way(3), -1);
        due.is("way(-1)", x.way(-1), -1);
        due.is("way(least)", x.way(Integer.MIN_VALUE), -1);
        due.is("way(most)", x.way(Integer.MAX_VALUE), -1);
        FoundryNine ring = new FoundryNine();
        ring.gate(0, 0, 0, 0, 0, 9);
        due.is("longest of a ring", ring.longest(), 0);
        due.is("way of a ring", ring.way(0), -1);
        ring.register(5, 0, 0, -1, 0);
        due.is("longest of 0", ring.longest(), 0);
        due.is("way of 0", ring.way(0), 5);
        due.is("way of 0 ends", ring.way(1), -1);
    }

    private static void wayOfEquals() {
        int[][] pins = {{3, 2, 1}, {1, 3, 2}, {0, 3, 2}, {0, 3, 1}, {0, 4, 2}, {0, 2, 4}, {1, 2, 4}, {0, 0, 3}};
        int[] next = {3, 1, 3, 3, 4, 4, 4, 3};
        for (int i = 0; i < pins.length; i++) {
            FoundryNine x = new FoundryNine();
            x.input(0);
            x.input(9);
            for (int wire = 1; wire <= 3; wire++) {
                x.gate(1, wire, 9, 0, 0, 5);
            }
            x.gate(1, 4, 9, 0, 0, 6);
            x.gate(7, 20, pins[i][0], pins[i][1], pins[i][2], 20);
            due.is("way(0) of " + i, x.way(0), 20);
            due.is("way(1) of " + i + ": a ahead of b ahead of c", x.way(1), next[i]);
            due.is("way(2) of " + i, x.way(2), 9);
            due.is("way(3) of " + i, x.way(3), -1);
        }
    }

    private static void users() {
        FoundryNine x = new FoundryNine();
        x.input(0);
        x.gate(2, 1, 0, 0, 0, 0);
        x.gate(7, 2, 3, 0, 3, 0);
        x.register(3, 3, 3, 3, 0);
        x.register(4, 1, 0, 2, 0);
        due.is("users(0)", x.users(0), 3);
        due.is("users(1)", x.users(1), 1);
        due.is("users(2)", x.users(2), 1);
        due.is("users(3)", x.users(3), 2);
        due.is("users(4)", x.users(4), 0);
        due.isThrown(INDEX, "users(24)", () -> x.users(24));
        due.isThrown(INDEX, "users(-1)", () -> x.users(-1));
        FoundryNine all = new FoundryNine();
        for (int line = 0; line < 30; line++) {
            all.gate(2, line % 24, 7, 7, 0, 0);
        }
        due.is("users of 30 lines", all.users(7), 30);
    }
}
