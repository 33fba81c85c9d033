/** 3 RUNNING: as it is STARTED. */
@Section("Terms")
final class Term3Start {
    @Says("As it is STARTED, all WIRES are 2,")
    static void allWiresAre2(Due due) {
        FoundryNine x = new FoundryNine();
        Circuits.chain(x, 0, 23, 1);
        x.input(0);
        x.start();
        x.settle();
        due.is("the last WIRE is 0", x.ofWire(23, 0), 0);
        x.start();
        due.is("the INPUT is 0", x.ofWire(0, 0), 0);
        for (int wire = 1; wire < 24; wire++) {
            due.is("WIRE " + wire, x.ofWire(wire, 0), 2);
            due.is("WIRE " + wire + " did not change", x.ofWire(wire, 1), -1);
            due.is("WIRE " + wire + " did not change since", x.ofWire(wire, 2), 0);
        }
    }

    @Says("the TIME is 0,")
    static void theTimeIs0(Due due) {
        FoundryNine x = new FoundryNine();
        Circuits.midway(x);
        due.is("the TIME ahead", x.told(0) > 0, true);
        x.start();
        due.is("the TIME", x.told(0), 0);
    }

    @Says("nothing is PENDING;")
    static void nothingIsPending(Due due) {
        FoundryNine x = Circuits.register(0, 0, 20);
        x.set(0, 1);
        x.set(1, 1);
        due.is("PENDING ahead", x.pending(3), 1);
        due.is("start()", x.start(), 0);
        due.is("PENDING", x.pending(3), -1);
        due.is("nothing comes", x.pass(100), 0);
        due.is("the WIRE", x.ofWire(3, 0), 2);
    }

    @Says("then all INPUTS become 0,")
    static void allInputsBecome0(Due due) {
        FoundryNine x = new FoundryNine();
        for (int wire = 0; wire < 24; wire++) {
            x.input(wire);
        }
        due.is("start()", x.start(), 0);
        for (int wire = 0; wire < 24; wire++) {
            due.is("WIRE " + wire, x.ofWire(wire, 0), 0);
            x.set(wire, 1);
        }
        x.start();
        for (int wire = 0; wire < 24; wire++) {
            due.is("WIRE " + wire + " anew", x.ofWire(wire, 0), 0);
        }
        due.is("CHANGES", x.told(5), 24);
    }

    /**
     * Two GATES of DELAY 20 are PENDING since START, one for each of two INPUTS; 299 others come ahead of them in
     * one call, so the one of the INPUT that became 0 first is the 300th, and the other one does not come.
     */
    @Says("by their LINES, one by one,")
    static void byTheirLinesOneByOne(Due due) {
        for (int first = 0; first < 2; first++) {
            FoundryNine x = new FoundryNine();
            x.input(first);
            x.input(1 - first);
            x.gate(1, 2, 0, 0, 0, 20);
            x.gate(1, 3, 1, 0, 0, 20);
            x.input(4);
            Circuits.buzzers(x, 4, 5, 0, 18);
            x.start();
            x.pass(0);
            int[] others = {2, 4, 10};
            for (int line = 5; line < 23; line++) {
                x.setDelay(line, line < 20 ? 1 : others[line - 20]);
            }
            x.set(4, 1);
            due.is("settle()", x.settle(), 300);
            due.is("RESTLESS", x.told(4), 1);
            due.is("the GATE of the first came", x.ofWire(2 + first, 0), 0);
            due.is("the GATE of the second did not", x.ofWire(3 - first, 0), 2);
        }
    }

    @Says("as CHANGES at that TIME.")
    static void asChangesAtThatTime(Due due) {
        FoundryNine x = new FoundryNine();
        x.input(23);
        x.input(0);
        x.gate(0, 5, 23, 0, 0, 3);
        x.register(6, 0, 23, 0, 3);
        x.gate(7, 7, 6, 6, 6, 3);
        due.is("start(): the GATE was ASKED", x.start(), 1);
        for (int wire : new int[] {0, 23}) {
            due.is("it changed at", x.ofWire(wire, 1), 0);
            due.is("it changed", x.ofWire(wire, 2), 1);
            due.is("from", x.ofWire(wire, 3), 2);
        }
        due.is("CHANGES", x.told(5), 2);
        due.is("for that TIME and its DELAY", x.told(2), 3);
    }
}
