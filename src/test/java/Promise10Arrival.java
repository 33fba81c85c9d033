/** Promise 10. */
@Section("Promise 10: arrival")
final class Promise10Arrival {
    @Says({"- `wire`: a WIRE", "Returns its ARRIVAL."})
    static void ofTheFirstAndTheLastWire(Due due) {
        FoundryNine x = new FoundryNine();
        x.input(12);
        x.gate(1, 0, 12, 0, 0, 20);
        x.gate(1, 23, 0, 0, 0, 1);
        x.gate(1, 1, 1, 0, 0, 9);
        due.is("WIRE 0", x.arrival(0), 20);
        due.is("WIRE 23", x.arrival(23), 21);
        due.is("WIRE 12", x.arrival(12), 0);
        due.is("WIRE 1, in a RING", x.arrival(1), -1);
        due.is("WIRE 2, that nobody drives", x.arrival(2), 0);
        x.start();
        x.settle();
        due.is("as it runs", x.arrival(23), 21);
    }

    @Says("Throws `IndexOutOfBoundsException` if there is no such WIRE")
    static void noSuchWire(Due due) {
        for (int wire : Edges.NO_WIRES) {
            due.isRefused(Due.INDEX, "arrival(" + wire + ")", Circuits::none, x -> x.arrival(wire));
            due.isRefused(Due.INDEX, "as it runs: arrival(" + wire + ")", Circuits::midway, x -> x.arrival(wire));
        }
    }
}
