/** Promise 2. */
@Section("Promise 2: input")
final class Promise02Input {
    @Says({"Adds an INPUT.", "- `wire`: the WIRE"})
    static void addsAnInput(Due due) {
        FoundryNine x = new FoundryNine();
        x.input(23);
        due.is("lines()", x.lines(), 1);
        due.is("its DELAY: none", x.arrival(23), 0);
        due.isThrown(Due.ARGUMENT, "it is an INPUT", () -> x.setDelay(0, 0));
        due.isThrown(Due.ARGUMENT, "it is no REGISTER", () -> x.setWindow(0, 0, 0));
        x.start();
        due.is("it can be set", x.set(23, 1), 0);
    }

    @Says("Returns its number.")
    static void returnsItsNumber0To29(Due due) {
        FoundryNine x = new FoundryNine();
        for (int line = 0; line < 30; line++) {
            due.is("input", x.input(line % 24), line);
        }
    }

    @Says("Throws `IndexOutOfBoundsException` if there is no such WIRE")
    static void noSuchWire(Due due) {
        for (int wire : Edges.NO_WIRES) {
            due.isRefused(Due.INDEX, "input(" + wire + ")", Circuits::none, x -> x.input(wire));
            due.isRefused(Due.INDEX, "as it runs: input(" + wire + ")", Circuits::midway, x -> x.input(wire));
        }
        FoundryNine x = new FoundryNine();
        due.is("input(0)", x.input(0), 0);
        due.is("input(23)", x.input(23), 1);
        due.is("input(23) again: a FLAW, but no exception", x.input(23), 2);
    }

    @Says("Throws `IllegalStateException` if there are 30")
    static void thereAre30(Due due) {
        FoundryNine x = new FoundryNine();
        Circuits.twentyNine(x);
        due.is("there are 29", x.input(0), 29);
        due.is("lines()", x.lines(), 30);
        due.isThrown(Due.STATE, "there are 30", () -> x.input(0));
        due.isThrown(Due.STATE, "there are 30, again", () -> x.input(23));
        due.is("lines() behind it", x.lines(), 30);
        due.isRefused(Due.STATE, "input(8)", Circuits::thirty, y -> y.input(8));
        due.isRefused(Due.INDEX, "no such WIRE is named first", Circuits::thirty, y -> y.input(24));
    }
}
