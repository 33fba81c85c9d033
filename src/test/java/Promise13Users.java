/** Promise 13. */
@Section("Promise 13: users")
final class Promise13Users {
    @Says({"- `wire`: a WIRE", "Returns how many LINES use it"})
    static void from0To30(Due due) {
        for (int wire : new int[] {0, 23}) {
            FoundryNine x = new FoundryNine();
            due.is("none", x.users(wire), 0);
            x.input(wire);
            due.is("who drives it does not use it", x.users(wire), 0);
            for (int line = 1; line < 30; line++) {
                x.gate(2, 5, wire, 6, 0, 0);
                due.is("users", x.users(wire), line);
            }
            FoundryNine all = new FoundryNine();
            for (int line = 0; line < 30; line++) {
                all.register(wire, wire, wire, wire, 0);
            }
            due.is("all 30", all.users(wire), 30);
        }
    }

    @Says("(each once).")
    static void eachOnce(Due due) {
        int[][] pins = {{4, 4, 4}, {4, 4, 5}, {4, 5, 4}, {5, 4, 4}, {4, 5, 5}, {5, 4, 5}, {5, 5, 4}};
        for (int[] p : pins) {
            FoundryNine x = new FoundryNine();
            x.gate(7, 0, p[0], p[1], p[2], 0);
            due.is("a GATE", x.users(4), 1);
            x.register(1, p[0], p[1], p[2], 0);
            due.is("a REGISTER, too", x.users(4), 2);
        }
    }

    @Says("Throws `IndexOutOfBoundsException` if there is no such WIRE")
    static void noSuchWire(Due due) {
        for (int wire : Edges.NO_WIRES) {
            due.isRefused(Due.INDEX, "users(" + wire + ")", Circuits::none, x -> x.users(wire));
            due.isRefused(Due.INDEX, "as it runs: users(" + wire + ")", Circuits::midway, x -> x.users(wire));
        }
    }
}
