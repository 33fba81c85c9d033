/** Promise 15. */
@Section("Promise 15: set")
final class Promise15Set {
    @Says("Sets an INPUT: all WIRES begin to be COUNTED;")
    static void allWiresBeginToBeCounted(Due due) {
        FoundryNine x = new FoundryNine();
        x.input(0);
        x.input(23);
        x.gate(0, 1, 0, 0, 0, 0);
        x.start();
        x.pass(5);
        due.is("it changed", x.ofWire(1, 2), 1);
        x.set(23, 1);
        for (int wire = 0; wire < 24; wire++) {
            due.is("WIRE " + wire + " changed since", x.ofWire(wire, 2), wire == 23 ? 1 : 0);
            due.is("WIRE " + wire + " was", x.ofWire(wire, 3), wire == 23 ? 0 : wire == 0 ? 0 : wire == 1 ? 1 : 2);
        }
    }

    @Says("then it is a CHANGE, if it is another VALUE.")
    static void theSameValueIsNoChange(Due due) {
        FoundryNine x = new FoundryNine();
        x.input(0);
        x.gate(0, 1, 0, 0, 0, 3);
        x.start();
        x.settle();
        int changes = x.told(5);
        x.set(0, 0);
        due.is("0 of 0: CHANGES", x.told(5), changes);
        due.is("0 of 0: it changed last at", x.ofWire(0, 1), 0);
        due.is("0 of 0: it changed", x.ofWire(0, 2), 0);
        due.is("0 of 0: PENDING", x.told(1), 0);
        x.set(0, 1);
        due.is("1 of 0: CHANGES", x.told(5), changes + 1);
        due.is("1 of 0: it changed last at", x.ofWire(0, 1), 3);
        due.is("1 of 0: it changed", x.ofWire(0, 2), 1);
        due.is("1 of 0: PENDING", x.told(1), 1);
        x.pass(2);
        x.set(0, 1);
        due.is("1 of 1: CHANGES", x.told(5), changes + 1);
        due.is("1 of 1: it changed last at", x.ofWire(0, 1), 3);
        due.is("1 of 1: but it began to be COUNTED", x.ofWire(0, 2), 0);
        due.is("1 of 1: as", x.ofWire(0, 3), 1);
        due.is("no TIME passes", x.told(0), 5);
    }

    @Says({"- `wire`: its WIRE", "- `value`: its VALUE from now on"})
    static void eachInputHasAValueOfItsOwn(Due due) {
        FoundryNine x = new FoundryNine();
        for (int wire = 23; wire >= 0; wire--) {
            x.input(wire);
        }
        x.start();
        x.set(0, 1);
        x.set(23, 1);
        for (int wire = 0; wire < 24; wire++) {
            due.is("WIRE " + wire, x.ofWire(wire, 0), wire == 0 || wire == 23 ? 1 : 0);
        }
    }

    @Says("Returns the one before.")
    static void returnsTheOneBefore(Due due) {
        FoundryNine x = new FoundryNine();
        x.input(0);
        x.start();
        due.is("0, since START", x.set(0, 0), 0);
        due.is("0", x.set(0, 1), 0);
        due.is("1", x.set(0, 1), 1);
        due.is("1 again", x.set(0, 0), 1);
        due.is("0 again", x.set(0, 1), 0);
        x.start();
        due.is("0, since START anew", x.set(0, 1), 0);
    }

    @Says("Throws `IllegalStateException` if it does not run")
    static void itDoesNotRun(Due due) {
        due.isRefused(Due.STATE, "ahead of START", Circuits::told, x -> x.set(0, 1));
        due.isRefused(Due.STATE, "ahead of START, no WIRE", Circuits::told, x -> x.set(24, 2));
        due.isRefused(Due.STATE, "behind a LINE", Circuits::twentyNine, x -> x.set(0, 1));
        due.isRefused(Due.STATE, "behind a LINE, no INPUT", Circuits::twentyNine, x -> x.set(4, 1));
    }

    @Says("Throws `IndexOutOfBoundsException` if there is no such WIRE")
    static void noSuchWire(Due due) {
        for (int wire : Edges.NO_WIRES) {
            due.isRefused(Due.INDEX, "set(" + wire + ", 0)", Circuits::midway, x -> x.set(wire, 0));
            due.isRefused(Due.INDEX, "set(" + wire + ", 2)", Circuits::midway, x -> x.set(wire, 2));
        }
    }

    @Says("Throws `IllegalArgumentException` if no INPUT drives it,")
    static void noInputDrivesIt(Due due) {
        int[][] others = {{3, 0}, {4, 0}, {6, 1}, {7, 1}, {8, 0}, {23, 1}};
        for (int[] other : others) {
            due.isRefused(Due.ARGUMENT, "WIRE " + other[0], Circuits::midway, x -> x.set(other[0], other[1]));
        }
        due.isRefused(Due.ARGUMENT, "no LINES at all", x -> x.start(), x -> x.set(0, 0));
    }

    @Says("or value is not 0 or 1")
    static void valueIsNot0Or1(Due due) {
        for (int value : Edges.NO_INPUTS_VALUES) {
            due.isRefused(Due.ARGUMENT, "set(0, " + value + ")", Circuits::midway, x -> x.set(0, value));
        }
    }

    @Says("or value is not 0 or 1")
    static void whatIsRefusedBeginsNoCounting(Due due) {
        FoundryNine x = new FoundryNine();
        x.input(0);
        x.gate(0, 1, 0, 0, 0, 0);
        x.start();
        x.pass(1);
        due.isThrown(Due.ARGUMENT, "2", () -> x.set(0, 2));
        due.isThrown(Due.ARGUMENT, "no INPUT", () -> x.set(1, 0));
        due.is("it changed since START", x.ofWire(1, 2), 1);
        due.is("it was", x.ofWire(1, 3), 2);
    }
}
