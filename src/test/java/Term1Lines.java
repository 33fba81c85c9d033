/** 1 LINES. */
@Section("Terms")
final class Term1Lines {
    @Says("There are 24 WIRES, 0 to 23.")
    static void wires0To23(Due due) {
        for (int wire : new int[] {0, 23}) {
            FoundryNine x = new FoundryNine();
            due.is("input", x.input(wire), 0);
            due.is("gate", x.gate(7, 5, wire, wire, wire, 0), 1);
            due.is("register", x.register(6, wire, wire, wire, 0), 2);
            due.is("arrival", x.arrival(wire), 0);
            due.is("users", x.users(wire), 2);
            x.start();
            due.is("set", x.set(wire, 1), 0);
            due.is("ofWire", x.ofWire(wire, 0), 1);
            due.is("wouldBe", x.wouldBe(wire, 0, wire), 0);
            due.is("hazardsWith", x.hazardsWith(wire, 0), 0);
        }
        for (int wire : Edges.NO_WIRES) {
            FoundryNine x = new FoundryNine();
            Circuits.started(x);
            due.isThrown(Due.INDEX, "input(" + wire + ")", () -> x.input(wire));
            due.isThrown(Due.INDEX, "gate(.., " + wire + ", ..)", () -> x.gate(7, wire, 0, 0, 0, 0));
            due.isThrown(Due.INDEX, "register(" + wire + ", ..)", () -> x.register(wire, 0, 0, 0, 0));
            due.isThrown(Due.INDEX, "arrival(" + wire + ")", () -> x.arrival(wire));
            due.isThrown(Due.INDEX, "users(" + wire + ")", () -> x.users(wire));
            due.isThrown(Due.INDEX, "set(" + wire + ", 0)", () -> x.set(wire, 0));
            due.isThrown(Due.INDEX, "ofWire(" + wire + ", 0)", () -> x.ofWire(wire, 0));
            due.isThrown(Due.INDEX, "wouldBe(" + wire + ", 0, 0)", () -> x.wouldBe(wire, 0, 0));
            due.isThrown(Due.INDEX, "hazardsWith(" + wire + ", 0)", () -> x.hazardsWith(wire, 0));
        }
    }

    @Says("At most 30 LINES, numbered from 0:")
    static void thirtyLinesNumberedFrom0(Due due) {
        FoundryNine x = new FoundryNine();
        for (int line = 0; line < 30; line++) {
            due.is("the number", x.gate(0, line % 24, 0, 0, 0, 0), line);
            due.is("lines()", x.lines(), line + 1);
        }
        due.is("the last LINE has a DELAY", x.setDelay(29, 3), 0);
        due.is("and something PENDING, or not", x.pending(29), -1);
        due.isThrown(Due.INDEX, "there is no LINE 30", () -> x.setDelay(30, 3));
        due.isThrown(Due.STATE, "a LINE 30", () -> x.gate(0, 0, 0, 0, 0, 0));
    }

    @Says("an INPUT, that drives a WIRE;")
    static void anInputDrivesAWire(Due due) {
        FoundryNine x = new FoundryNine();
        x.gate(0, 1, 0, 0, 0, 0);
        due.is("nobody drives it", x.ofFlaw(0, 1), 0);
        x.input(0);
        due.is("an INPUT drives it", x.flaws(), 0);
        due.is("an INPUT uses none", x.users(0), 1);
    }

    @Says("a GATE, that drives a WIRE by 1 to 3 others, a, b and c, with a DELAY;")
    static void aGateIsDrivenBy1To3(Due due) {
        for (int kind = 0; kind <= 7; kind++) {
            FoundryNine x = new FoundryNine();
            x.gate(kind, 0, 1, 2, 3, 0);
            due.is("users of a, kind " + kind, x.users(1), 1);
            due.is("users of b, kind " + kind, x.users(2), kind >= 2 ? 1 : 0);
            due.is("users of c, kind " + kind, x.users(3), kind == 7 ? 1 : 0);
            due.is("flaws(): of 1 to 3 that none drives, kind " + kind, x.flaws(), kind < 2 ? 1 : kind < 7 ? 2 : 3);
        }
    }

    @Says({"a REGISTER, that drives a WIRE by a DATA, a CLOCK and a RESET (or no RESET), with a DELAY,"
        + " a SETUP and a HOLD"})
    static void aRegisterHasAResetOrNone(Due due) {
        FoundryNine x = new FoundryNine();
        x.register(0, 1, 2, 3, 5);
        due.is("users of DATA", x.users(1), 1);
        due.is("users of CLOCK", x.users(2), 1);
        due.is("users of RESET", x.users(3), 1);
        FoundryNine y = new FoundryNine();
        y.input(1);
        y.input(2);
        y.register(0, 1, 2, -1, 5);
        due.is("without RESET: none lacks", y.flaws(), 0);
        y.start();
        y.set(1, 1);
        y.set(2, 1);
        due.is("without RESET: it RISES", y.pending(2), 1);
        due.is("its DELAY", y.told(2), 5);
    }

    @Says("(0 each at first).")
    static void setupAndHoldAre0AtFirst(Due due) {
        FoundryNine x = new FoundryNine();
        x.input(0);
        x.input(1);
        x.register(2, 0, 1, -1, 3);
        x.start();
        x.set(0, 1);
        x.set(1, 1);
        due.is("SETUP 0: DATA changed at this TIME", x.hazards(), 0);
        due.is("SETUP 0: it is not 2", x.pending(2), 1);
        x.set(0, 0);
        due.is("HOLD 0: there was a RISE at this TIME", x.hazards(), 0);
        due.is("HOLD 0: it is not 2", x.pending(2), 1);
        due.is("SETUP at first", x.setWindow(2, 1, 1), 0);
        x.set(0, 1);
        due.is("HOLD 1: there was a RISE at this TIME", x.hazards(), 1);
    }

    @Says("0 NOT a;")
    static void kind0IsNotA(Due due) {
        isWorked(due, 0, "111 111 111 000 000 000 222 222 222");
    }

    @Says("1 SAME a;")
    static void kind1IsSameA(Due due) {
        isWorked(due, 1, "000 000 000 111 111 111 222 222 222");
    }

    @Says({"2 AND,", "AND is 0, if one is 0; 1, if both are 1; otherwise 2;"})
    static void kind2IsAnd(Due due) {
        isWorked(due, 2, "000 000 000 000 111 222 000 222 222");
    }

    @Says({"3 OR,", "OR is 1, if one is 1; 0, if both are 0; otherwise 2;"})
    static void kind3IsOr(Due due) {
        isWorked(due, 3, "000 111 222 111 111 111 222 111 222");
    }

    @Says({"4 DIFFER,", "DIFFER is 2, if one is 2, otherwise 1, if they are not the same, and 0, if they are;"})
    static void kind4IsDiffer(Due due) {
        isWorked(due, 4, "000 111 222 111 000 222 222 222 222");
    }

    @Says("5 NOT AND,")
    static void kind5IsNotAnd(Due due) {
        isWorked(due, 5, "111 111 111 111 000 222 111 222 222");
    }

    @Says({"6 NOT OR of a and b;", "NOT turns 0 and 1, and leaves 2."})
    static void kind6IsNotOr(Due due) {
        isWorked(due, 6, "111 000 222 000 000 000 222 000 222");
    }

    @Says("7 CHOOSE: b, if a is 1, c, if it is 0; if it is 2, b, if b and c are the same, otherwise 2.")
    static void kind7IsChoose(Due due) {
        isWorked(due, 7, "012 012 012 000 111 222 022 212 222");
    }

    /** The table tells, for a of 0, 1 and 2, for b, and for c, what it is; it is so from whatever it was. */
    private static void isWorked(Due due, int kind, String table) {
        String values = table.replace(" ", "");
        for (int now = 0; now < 27; now++) {
            String text = "kind " + kind + " of " + now / 9 + ", " + now / 3 % 3 + ", " + now % 3;
            int want = values.charAt(now) - '0';
            Pins fresh = new Pins(kind);
            fresh.put(now);
            due.is(text + " ahead of any", fresh.worked(), want);
            for (int before : new int[] {values.indexOf('0'), values.indexOf('1'), values.lastIndexOf('1')}) {
                Pins pins = new Pins(kind);
                pins.put(before);
                pins.put(now);
                due.is(text + " behind " + values.charAt(before), pins.worked(), want);
            }
        }
    }

    /** A GATE, each pin of which can be made 0, 1 and 2: REGISTERS drive them, whose DATA may come too late. */
    private static final class Pins {
        private final FoundryNine x = new FoundryNine();

        Pins(int kind) {
            for (int wire = 0; wire < 6; wire++) {
                x.input(wire);
            }
            for (int pin = 0; pin < 3; pin++) {
                x.register(6 + pin, pin, 3 + pin, -1, 0);
            }
            x.gate(kind, 9, 6, 7, 8, 1);
            x.start();
            x.settle();
        }

        void put(int values) {
            put(0, values / 9);
            put(1, values / 3 % 3);
            put(2, values % 3);
            x.settle();
        }

        private void put(int pin, int value) {
            x.setWindow(6 + pin, value == 2 ? 1 : 0, 0);
            x.set(pin, value == 2 ? 1 - x.ofWire(pin, 0) : value);
            x.set(3 + pin, 1);
            x.pass(0);
            x.set(3 + pin, 0);
        }

        int worked() {
            return x.ofWire(9, 0);
        }
    }
}
