/** Circuits that several tests begin with. */
final class Circuits {
    static final int NOT = 0;
    static final int SAME = 1;
    static final int AND = 2;
    static final int OR = 3;
    static final int DIFFER = 4;
    static final int NOT_AND = 5;
    static final int NOT_OR = 6;
    static final int CHOOSE = 7;

    private Circuits() {
    }

    static void none(FoundryNine x) {
    }

    /** Lines of each sort, without flaws of 1 or 2: 0 to 2 INPUTS, 3 a REGISTER, 4, 5 and 7 GATES, 6 one in a RING. */
    static void told(FoundryNine x) {
        x.input(0);
        x.input(1);
        x.input(2);
        x.register(3, 0, 1, 2, 4);
        x.gate(NOT, 4, 0, 0, 0, 3);
        x.gate(AND, 5, 0, 4, 0, 2);
        x.gate(NOT_AND, 6, 2, 6, 0, 5);
        x.gate(SAME, 7, 3, 0, 0, 1);
        x.setWindow(3, 6, 7);
    }

    static void started(FoundryNine x) {
        told(x);
        x.start();
    }

    /** It runs, at 24: two LINES have something PENDING, two were SWALLOWED, four HAZARDS are noted. */
    static void midway(FoundryNine x) {
        started(x);
        x.settle();
        x.pass(9);
        x.set(0, 1);
        x.pass(3);
        x.set(1, 1);
        x.pass(1);
        x.set(0, 0);
        x.settle();
        x.set(0, 1);
        x.pass(1);
        x.set(2, 1);
        x.set(0, 0);
        x.pass(1);
    }

    /** Behind midway: 29 LINES, so that it does not run, and as much is left of the run. */
    static void twentyNine(FoundryNine x) {
        midway(x);
        for (int line = 8; line < 29; line++) {
            x.gate(line % 8, line % 24, (line + 1) % 24, (line + 2) % 24, (line + 3) % 24, line % 21);
        }
    }

    static void thirty(FoundryNine x) {
        twentyNine(x);
        x.register(9, 8, 7, -1, 2);
    }

    /** 24 LINES, one for each WIRE: as many as may run. */
    static void eachWireDriven(FoundryNine x) {
        for (int wire = 0; wire < 24; wire++) {
            if (wire % 3 == 0) {
                x.input(wire);
            } else {
                x.gate(NOT, wire, wire - 1, 0, 0, 1);
            }
        }
    }

    /** DATA 0, CLOCK 1 and RESET 2 are INPUTS, the REGISTER is LINE 3 and drives WIRE 3; nothing changed for long. */
    static FoundryNine register(int setup, int hold, int delay) {
        FoundryNine x = new FoundryNine();
        x.input(0);
        x.input(1);
        x.input(2);
        x.register(3, 0, 1, 2, delay);
        x.setWindow(3, setup, hold);
        x.start();
        x.pass(30);
        return x;
    }

    /** GATES in a chain, from a WIRE to the one behind it, up to the last. */
    static void chain(FoundryNine x, int first, int last, int delay) {
        for (int wire = first; wire < last; wire++) {
            x.gate(SAME, wire + 1, wire, 0, 0, delay);
        }
    }

    /** GATES that turn their own WIRE as long as another is 1; they are 1 as it is 0. */
    static void buzzers(FoundryNine x, int by, int first, int delay, int many) {
        for (int wire = first; wire < first + many; wire++) {
            x.gate(NOT_AND, wire, by, wire, 0, delay);
        }
    }

    /**
     * A WIRE that turns at these times behind each change of another (at 20 at most, the earliest first); uses two
     * WIRES less one for each time, from the first, and tells the last of them, that turns.
     */
    static int turning(FoundryNine x, int by, int first, int... times) {
        int wire = first;
        x.gate(SAME, wire, by, 0, 0, times[0]);
        for (int i = 1; i < times.length; i++) {
            x.gate(SAME, wire + 1, by, 0, 0, times[i]);
            x.gate(DIFFER, wire + 2, wire, wire + 1, 0, 0);
            wire += 2;
        }
        return wire;
    }

    /** A circuit that comes to rest by itself 20 later, behind 299 that come, and as many more. */
    static FoundryNine busyForAWhile(int more) {
        FoundryNine x = new FoundryNine();
        x.input(0);
        x.gate(1, 1, 0, 0, 0, 20);
        buzzers(x, 1, 2, 1, 14);
        buzzers(x, 1, 16, 2, 1);
        buzzers(x, 1, 17, 4, 1);
        buzzers(x, 1, 18, 5, 1);
        x.input(19);
        for (int i = 0; i < more; i++) {
            x.gate(1, 20 + i, 19, 0, 0, 20);
        }
        x.start();
        x.settle();
        x.set(0, 1);
        x.pass(20);
        x.set(0, 0);
        x.set(19, 1);
        return x;
    }

    /** How many HAZARDS of a WIRE are noted. */
    static int hazardsOf(FoundryNine x, int wire) {
        int many = 0;
        for (int hazard = 0; hazard < x.hazards(); hazard++) {
            many += x.ofHazard(hazard, 1) == wire ? 1 : 0;
        }
        return many;
    }

    /** The code of the last HAZARD of a WIRE; 0 if there is none. */
    static int lastHazardOf(FoundryNine x, int wire) {
        int code = 0;
        for (int hazard = 0; hazard < x.hazards(); hazard++) {
            code = x.ofHazard(hazard, 1) == wire ? x.ofHazard(hazard, 0) : code;
        }
        return code;
    }
}
