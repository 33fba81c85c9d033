/** Promise 11. */
@Section("Promise 11: longest")
final class Promise11Longest {
    @Says("`int longest()`: Returns the greatest ARRIVAL of a WIRE;")
    static void theGreatest(Due due) {
        for (int wire : new int[] {0, 11, 23}) {
            FoundryNine x = new FoundryNine();
            x.input(5);
            x.gate(1, wire, 5, 0, 0, 9);
            x.gate(1, 6, 5, 0, 0, 8);
            due.is("of WIRE " + wire, x.longest(), 9);
            x.setDelay(1, 7);
            due.is("of another", x.longest(), 8);
        }
        FoundryNine most = new FoundryNine();
        most.register(0, 0, 0, -1, 20);
        Circuits.chain(most, 0, 23, 20);
        due.is("as great as it may be", most.longest(), 480);
    }

    @Says("0, if none is above 0.")
    static void noneIsAbove0(Due due) {
        FoundryNine x = new FoundryNine();
        due.is("no LINE", x.longest(), 0);
        for (int wire = 0; wire < 24; wire++) {
            x.gate(1, wire, (wire + 1) % 24, 0, 0, 20);
        }
        due.is("-1 each", x.longest(), 0);
        FoundryNine y = new FoundryNine();
        y.input(0);
        y.gate(1, 1, 0, 0, 0, 0);
        y.register(2, 0, 0, -1, 0);
        due.is("0 each", y.longest(), 0);
        y.gate(1, 3, 0, 0, 0, 1);
        due.is("1", y.longest(), 1);
    }
}
