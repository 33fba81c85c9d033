/** Promise 28. */
@Section("Promise 28: meanArrival")
final class Promise28MeanArrival {
    @Says("`double meanArrival()`: Returns the mean ARRIVAL of all WIRES that a LINE drives,")
    static void ofAllWiresThatALineDrives(Due due) {
        FoundryNine x = new FoundryNine();
        x.input(0);
        due.is("0", x.meanArrival(), 0.0);
        x.gate(0, 23, 0, 0, 0, 4);
        due.is("0 and 4", x.meanArrival(), 2.0);
        x.gate(0, 12, 20, 21, 22, 0);
        x.gate(0, 13, 20, 21, 22, 0);
        due.is("one that nobody drives is none of them", x.meanArrival(), 1.0);
        x.gate(0, 23, 0, 0, 0, 20);
        due.is("each WIRE once, by its first LINE", x.meanArrival(), 1.0);
        FoundryNine all = new FoundryNine();
        all.register(0, 0, 0, -1, 20);
        Circuits.chain(all, 0, 23, 20);
        due.is("20 to 480", all.meanArrival(), 250.0);
    }

    @Says("those of -1 left out,")
    static void thoseOfMinus1LeftOut(Due due) {
        FoundryNine x = new FoundryNine();
        x.gate(0, 9, 9, 0, 0, 3);
        x.register(1, 0, 0, -1, 8);
        due.is("8", x.meanArrival(), 8.0);
        x.gate(0, 2, 9, 0, 0, 3);
        due.is("8, as one behind a RING is left out", x.meanArrival(), 8.0);
        x.input(3);
        due.is("8 and 0", x.meanArrival(), 4.0);
    }

    @Says("not cut;")
    static void notCut(Due due) {
        FoundryNine x = new FoundryNine();
        x.register(0, 0, 0, -1, 1);
        x.register(1, 0, 0, -1, 0);
        due.is("1 of 2", x.meanArrival(), 0.5);
        x.register(2, 0, 0, -1, 0);
        due.is("1 of 3", x.meanArrival(), 1.0 / 3.0);
        x.register(3, 0, 0, -1, 20);
        due.is("21 of 4", x.meanArrival(), 5.25);
        for (int wire = 4; wire < 24; wire++) {
            x.register(wire, 0, 0, -1, 20);
        }
        due.is("421 of 24", x.meanArrival(), 421.0 / 24.0);
    }

    @Says("0 without any.")
    static void zeroWithoutAny(Due due) {
        FoundryNine x = new FoundryNine();
        due.is("no LINE", x.meanArrival(), 0.0);
        x.gate(0, 9, 9, 0, 0, 3);
        due.is("-1 alone", x.meanArrival(), 0.0);
        x.gate(0, 10, 9, 0, 0, 3);
        due.is("-1 alone, twice", x.meanArrival(), 0.0);
    }
}
