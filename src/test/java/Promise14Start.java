/** Promise 14. */
@Section("Promise 14: start")
final class Promise14Start {
    @Says("STARTS it, anew if it runs;")
    static void anewIfItRuns(Due due) {
        FoundryNine x = new FoundryNine();
        FoundryNine twin = new FoundryNine();
        Circuits.midway(x);
        Circuits.told(twin);
        due.is("anew as for the first time", x.start(), twin.start());
        due.is("digest()", x.digest(), twin.digest());
        due.is("and so it goes on", Look.at(x).equals(Look.at(twin)), true);
        FoundryNine left = new FoundryNine();
        FoundryNine other = new FoundryNine();
        Circuits.midway(left);
        left.input(9);
        Circuits.told(other);
        other.input(9);
        left.start();
        other.start();
        due.is("anew behind a LINE", Look.at(left).equals(Look.at(other)), true);
    }

    @Says("nothing else passes.")
    static void nothingElsePasses(Due due) {
        FoundryNine x = new FoundryNine();
        x.input(0);
        x.gate(0, 1, 0, 0, 0, 0);
        due.is("start()", x.start(), 1);
        due.is("what has DELAY 0 does not come", x.ofWire(1, 0), 2);
        due.is("it is PENDING", x.pending(1), 1);
        due.is("CHANGES of INPUTS alone", x.told(5), 1);
        due.is("the TIME", x.told(0), 0);
    }

    @Says("Returns how many LINES have something PENDING then.")
    static void howManyArePendingFrom0To23(Due due) {
        due.is("no LINES", new FoundryNine().start(), 0);
        for (int many = 0; many <= 23; many++) {
            FoundryNine x = new FoundryNine();
            x.input(0);
            for (int wire = 1; wire < 24; wire++) {
                if (wire <= many) {
                    x.gate(1, wire, 0, 0, 0, wire % 21);
                } else {
                    x.register(wire, 0, 0, 0, 0);
                }
            }
            due.is("start()", x.start(), many);
            due.is("told(1)", x.told(1), many);
        }
    }

    @Says("Throws `IllegalStateException` if there are FLAWS of 1 or 2")
    static void flawsOf1Or2(Due due) {
        due.isRefused(Due.STATE, "a FLAW of 1", x -> {
            Circuits.midway(x);
            x.input(3);
        }, x -> x.start());
        due.isRefused(Due.STATE, "a FLAW of 2", x -> {
            Circuits.midway(x);
            x.gate(0, 8, 9, 0, 0, 0);
        }, x -> x.start());
        due.isRefused(Due.STATE, "30 LINES, so a FLAW of 1", Circuits::thirty, x -> x.start());
        FoundryNine x = new FoundryNine();
        x.gate(0, 1, 1, 0, 0, 0);
        x.start();
        due.is("a FLAW of 3 alone", x.isRunning(), true);
        FoundryNine most = new FoundryNine();
        Circuits.eachWireDriven(most);
        most.start();
        due.is("as many LINES as may run", most.isRunning(), true);
        due.isThrown(Due.STATE, "one more", () -> {
            most.input(0);
            return most.start();
        });
    }
}
