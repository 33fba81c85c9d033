/** Promises 1 to 7: a new object, and how lines are told. */
public final class LinesTest {
    private static final Due due = new Due();
    private static final Class<IllegalArgumentException> ARGUMENT = IllegalArgumentException.class;
    private static final Class<IndexOutOfBoundsException> INDEX = IndexOutOfBoundsException.class;
    private static final Class<IllegalStateException> STATE = IllegalStateException.class;

    public static void main(String[] args) {
        aNewObject();
        input();
        gate();
        gateLooksOnlyAtItsPins();
        register();
        setWindow();
        setDelay();
        fullOfLines();
        itRunsNoMore();
        due.end();
    }

    private static void aNewObject() {
        FoundryNine x = new FoundryNine();
        due.is("new: lines()", x.lines(), 0);
        due.is("new: flaws()", x.flaws(), 0);
        due.is("new: isRunning()", x.isRunning(), false);
        due.is("new: longest()", x.longest(), 0);
        due.is("new: way(0)", x.way(0), -1);
        due.is("new: meanArrival()", x.meanArrival(), 0.0);
        due.is("new: hazards()", x.hazards(), 0);
        due.isThrown(INDEX, "new: pending(0)", () -> x.pending(0));
        due.isThrown(INDEX, "new: setDelay(0, 0)", () -> x.setDelay(0, 0));
        due.isThrown(INDEX, "new: setWindow(0, 0, 0)", () -> x.setWindow(0, 0, 0));
        for (int what = 0; what <= 5; what++) {
            due.is("new: told(" + what + ")", x.told(what), what == 2 ? -1 : 0);
        }
        for (int wire = 0; wire < 24; wire++) {
            due.is("new: arrival(" + wire + ")", x.arrival(wire), 0);
            due.is("new: users(" + wire + ")", x.users(wire), 0);
            due.is("new: ofWire(" + wire + ", 0)", x.ofWire(wire, 0), 2);
            due.is("new: ofWire(" + wire + ", 1)", x.ofWire(wire, 1), -1);
            due.is("new: ofWire(" + wire + ", 2)", x.ofWire(wire, 2), 0);
            due.is("new: ofWire(" + wire + ", 3)", x.ofWire(wire, 3), 2);
        }
        due.is("new: start()", x.start(), 0);
        due.is("new: isRunning() behind start()", x.isRunning(), true);
        due.is("new: settle()", x.settle(), 0);
    }

    private static void input() {
        FoundryNine x = new FoundryNine();
        due.is("input(23)", x.input(23), 0);
        due.is("input(0)", x.input(0), 1);
        due.isThrown(INDEX, "input(24)", () -> x.input(24));
        due.isThrown(INDEX, "input(-1)", () -> x.input(-1));
        due.isThrown(INDEX, "input(least)", () -> x.input(Integer.MIN_VALUE));
        due.isThrown(INDEX, "input(most)", () -> x.input(Integer.MAX_VALUE));
        due.is("lines() of inputs", x.lines(), 2);
    }

    private static void gate() {
        FoundryNine x = new FoundryNine();
        for (int kind = 0; kind <= 7; kind++) {
            due.is("gate(" + kind + ")", x.gate(kind, kind, 23, 22, 21, kind == 0 ? 0 : 20), kind);
        }
        due.isThrown(ARGUMENT, "gate: kind -1", () -> x.gate(-1, 0, 0, 0, 0, 0));
        due.isThrown(ARGUMENT, "gate: kind 8", () -> x.gate(8, 0, 0, 0, 0, 0));
        due.isThrown(ARGUMENT, "gate: kind 9", () -> x.gate(9, 0, 0, 0, 0, 0));
        due.isThrown(ARGUMENT, "gate: delay -1", () -> x.gate(0, 0, 0, 0, 0, -1));
        due.isThrown(ARGUMENT, "gate: delay 21", () -> x.gate(0, 0, 0, 0, 0, 21));
        due.isThrown(ARGUMENT, "gate: kind ahead of wire", () -> x.gate(8, 24, 24, 24, 24, 0));
        due.isThrown(ARGUMENT, "gate: delay ahead of wire", () -> x.gate(7, 24, 24, 24, 24, 21));
        due.isThrown(INDEX, "gate: wire -1", () -> x.gate(0, -1, 0, 0, 0, 0));
        due.isThrown(INDEX, "gate: wire 24", () -> x.gate(0, 24, 0, 0, 0, 0));
        for (int kind = 0; kind <= 7; kind++) {
            int k = kind;
            due.isThrown(INDEX, "gate(" + kind + "): a -1", () -> x.gate(k, 0, -1, 0, 0, 0));
            due.isThrown(INDEX, "gate(" + kind + "): a 24", () -> x.gate(k, 0, 24, 0, 0, 0));
            if (kind >= 2) {
                due.isThrown(INDEX, "gate(" + kind + "): b -1", () -> x.gate(k, 0, 0, -1, 0, 0));
                due.isThrown(INDEX, "gate(" + kind + "): b 24", () -> x.gate(k, 0, 0, 24, 0, 0));
            }
            if (kind == 7) {
                due.isThrown(INDEX, "gate(" + kind + "): c -1", () -> x.gate(k, 0, 0, 0, -1, 0));
                due.isThrown(INDEX, "gate(" + kind + "): c 24", () -> x.gate(k, 0, 0, 0, 24, 0));
            }
        }
        due.is("lines() of gates", x.lines(), 8);
    }

    private static void gateLooksOnlyAtItsPins() {
        FoundryNine x = new FoundryNine();
        x.input(0);
        x.input(1);
        due.is("NOT with a b and a c that are no wires", x.gate(0, 2, 0, -5, 99, 0), 2);
        due.is("SAME with a b and a c of others", x.gate(1, 3, 0, 1, 9, 0), 3);
        due.is("AND with a c that is no wire", x.gate(2, 4, 0, 1, 77, 0), 4);
        due.is("OR with a c of another", x.gate(3, 5, 0, 1, 8, 0), 5);
        due.is("users(0)", x.users(0), 4);
        due.is("users(1)", x.users(1), 2);
        due.is("users(8)", x.users(8), 0);
        due.is("flaws() of pins that are not looked at", x.flaws(), 0);
    }

    private static void register() {
        FoundryNine x = new FoundryNine();
        due.is("register", x.register(0, 1, 2, 3, 20), 0);
        due.is("register without reset", x.register(1, 1, 2, -1, 0), 1);
        due.is("setup at first", x.setWindow(0, 0, 0), 0);
        due.isThrown(INDEX, "register: wire -1", () -> x.register(-1, 0, 0, 0, 0));
        due.isThrown(INDEX, "register: wire 24", () -> x.register(24, 0, 0, 0, 0));
        due.isThrown(INDEX, "register: data -1", () -> x.register(0, -1, 0, 0, 0));
        due.isThrown(INDEX, "register: data 24", () -> x.register(0, 24, 0, 0, 0));
        due.isThrown(INDEX, "register: clock -1", () -> x.register(0, 0, -1, 0, 0));
        due.isThrown(INDEX, "register: clock 24", () -> x.register(0, 0, 24, 0, 0));
        due.isThrown(INDEX, "register: reset -2", () -> x.register(0, 0, 0, -2, 0));
        due.isThrown(INDEX, "register: reset 24", () -> x.register(0, 0, 0, 24, 0));
        due.isThrown(INDEX, "register: wire ahead of delay", () -> x.register(0, 0, 0, 24, 21));
        due.isThrown(ARGUMENT, "register: delay -1", () -> x.register(0, 0, 0, 0, -1));
        due.isThrown(ARGUMENT, "register: delay 21", () -> x.register(0, 0, 0, -1, 21));
        due.is("lines() of registers", x.lines(), 2);
        due.is("users(2)", x.users(2), 2);
    }

    private static void setWindow() {
        FoundryNine x = new FoundryNine();
        x.input(0);
        x.gate(0, 1, 0, 0, 0, 1);
        x.register(2, 0, 1, -1, 3);
        due.is("setWindow first", x.setWindow(2, 20, 0), 0);
        due.is("setWindow again", x.setWindow(2, 7, 20), 20);
        due.isThrown(INDEX, "setWindow: line -1", () -> x.setWindow(-1, 0, 0));
        due.isThrown(INDEX, "setWindow: line 3", () -> x.setWindow(3, 0, 0));
        due.isThrown(INDEX, "setWindow: line ahead of setup", () -> x.setWindow(3, 21, 21));
        due.isThrown(ARGUMENT, "setWindow: an input", () -> x.setWindow(0, 0, 0));
        due.isThrown(ARGUMENT, "setWindow: a gate", () -> x.setWindow(1, 0, 0));
        due.isThrown(ARGUMENT, "setWindow: setup -1", () -> x.setWindow(2, -1, 0));
        due.isThrown(ARGUMENT, "setWindow: setup 21", () -> x.setWindow(2, 21, 0));
        due.isThrown(ARGUMENT, "setWindow: hold -1", () -> x.setWindow(2, 0, -1));
        due.isThrown(ARGUMENT, "setWindow: hold 21", () -> x.setWindow(2, 0, 21));
        due.is("setWindow behind throws", x.setWindow(2, 0, 0), 7);
        x.start();
        x.setWindow(2, 4, 4);
        due.is("isRunning() behind setWindow", x.isRunning(), true);
    }

    private static void setDelay() {
        FoundryNine x = new FoundryNine();
        x.input(0);
        x.gate(0, 1, 0, 0, 0, 5);
        x.register(2, 1, 0, -1, 3);
        due.is("setDelay of a gate", x.setDelay(1, 20), 5);
        due.is("arrival behind setDelay", x.arrival(1), 20);
        due.is("longest behind setDelay", x.longest(), 20);
        due.is("setDelay of a register", x.setDelay(2, 0), 3);
        due.is("arrival of a register behind setDelay", x.arrival(2), 0);
        due.isThrown(INDEX, "setDelay: line -1", () -> x.setDelay(-1, 0));
        due.isThrown(INDEX, "setDelay: line 3", () -> x.setDelay(3, 21));
        due.isThrown(ARGUMENT, "setDelay: an input", () -> x.setDelay(0, 0));
        due.isThrown(ARGUMENT, "setDelay: -1", () -> x.setDelay(1, -1));
        due.isThrown(ARGUMENT, "setDelay: 21", () -> x.setDelay(1, 21));
        due.is("start()", x.start(), 1);
        due.is("setDelay while it runs", x.setDelay(1, 2), 20);
        due.is("isRunning() behind setDelay", x.isRunning(), true);
        due.is("what is pending stays", x.told(2), 20);
        due.is("settle()", x.settle(), 1);
        due.is("the time", x.told(0), 20);
        x.set(0, 1);
        x.pass(0);
        due.is("the new delay", x.told(2), 22);
    }

    private static void fullOfLines() {
        FoundryNine x = new FoundryNine();
        for (int line = 0; line < 30; line++) {
            due.is("line " + line, x.input(line % 24), line);
        }
        due.is("lines() of 30", x.lines(), 30);
        due.isThrown(STATE, "input: 30", () -> x.input(0));
        due.isThrown(INDEX, "input: wire ahead of 30", () -> x.input(24));
        due.isThrown(STATE, "gate: 30", () -> x.gate(0, 0, 0, 0, 0, 0));
        due.isThrown(ARGUMENT, "gate: kind ahead of 30", () -> x.gate(8, 0, 0, 0, 0, 0));
        due.isThrown(INDEX, "gate: wire ahead of 30", () -> x.gate(2, 0, 0, 24, 0, 0));
        due.isThrown(STATE, "register: 30", () -> x.register(0, 0, 0, 0, 0));
        due.isThrown(INDEX, "register: wire ahead of 30", () -> x.register(0, 0, 0, -2, 0));
        due.isThrown(ARGUMENT, "register: delay ahead of 30", () -> x.register(0, 0, 0, 0, 21));
        due.is("lines() behind throws", x.lines(), 30);
        due.is("flaws() of 30 inputs", x.flaws(), 6);
    }

    private static void itRunsNoMore() {
        for (int sort = 0; sort < 3; sort++) {
            FoundryNine x = new FoundryNine();
            x.input(0);
            x.gate(0, 1, 0, 0, 0, 4);
            x.start();
            x.pass(3);
            due.isThrown(INDEX, "a wrong line", () -> x.input(24));
            due.is("isRunning() behind a wrong line", x.isRunning(), true);
            if (sort == 0) {
                x.input(2);
            } else if (sort == 1) {
                x.gate(0, 2, 0, 0, 0, 0);
            } else {
                x.register(2, 0, 1, -1, 0);
            }
            due.is("isRunning() behind a line", x.isRunning(), false);
            due.is("the time stays", x.told(0), 3);
            due.is("what is pending stays", x.told(1), 1);
            due.is("when it comes stays", x.told(2), 4);
            due.is("changes stay", x.told(5), 1);
            due.is("pending(1) stays", x.pending(1), 1);
            due.is("pending(2) of the new one", x.pending(2), -1);
            due.is("ofWire(0, 0) stays", x.ofWire(0, 0), 0);
            due.is("ofWire(0, 1) stays", x.ofWire(0, 1), 0);
            due.is("ofWire(0, 2) stays", x.ofWire(0, 2), 1);
            due.isThrown(STATE, "settle() behind a line", () -> x.settle());
        }
    }
}
