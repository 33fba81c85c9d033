/** Promise 1. */
@Section("Promise 1: A new object")
final class Promise01ANewObject {
    @Says("`FoundryNine()`: Creates a reader without LINES,")
    static void withoutLines(Due due) {
        FoundryNine x = new FoundryNine();
        due.is("lines()", x.lines(), 0);
        due.is("flaws()", x.flaws(), 0);
        due.is("longest()", x.longest(), 0);
        due.is("way(0)", x.way(0), -1);
        due.is("meanArrival()", x.meanArrival(), 0.0);
        due.is("hazards()", x.hazards(), 0);
        for (int wire = 0; wire < 24; wire++) {
            due.is("arrival(" + wire + ")", x.arrival(wire), 0);
            due.is("users(" + wire + ")", x.users(wire), 0);
        }
        due.isRefused(Due.INDEX, "setWindow(0, 0, 0)", Circuits::none, y -> y.setWindow(0, 0, 0));
        due.isRefused(Due.INDEX, "setDelay(0, 0)", Circuits::none, y -> y.setDelay(0, 0));
        due.isRefused(Due.INDEX, "pending(0)", Circuits::none, y -> y.pending(0));
        due.isRefused(Due.INDEX, "longestWith(0, 0)", Circuits::none, y -> y.longestWith(0, 0));
        due.isRefused(Due.INDEX, "ofFlaw(0, 0)", Circuits::none, y -> y.ofFlaw(0, 0));
        due.isRefused(Due.INDEX, "ofHazard(0, 0)", Circuits::none, y -> y.ofHazard(0, 0));
        due.is("the first LINE", x.input(0), 0);
    }

    @Says("that does not run.")
    static void thatDoesNotRun(Due due) {
        due.is("isRunning()", new FoundryNine().isRunning(), false);
        due.isRefused(Due.STATE, "set(0, 0)", Circuits::none, y -> y.set(0, 0));
        due.isRefused(Due.STATE, "pass(0)", Circuits::none, y -> y.pass(0));
        due.isRefused(Due.STATE, "settle()", Circuits::none, y -> y.settle());
        due.isRefused(Due.STATE, "wouldBe(0, 0, 0)", Circuits::none, y -> y.wouldBe(0, 0, 0));
        due.isRefused(Due.STATE, "hazardsWith(0, 0)", Circuits::none, y -> y.hazardsWith(0, 0));
        due.isRefused(Due.STATE, "settlesIn()", Circuits::none, y -> y.settlesIn());
    }

    @Says("Creates a reader")
    static void eachIsOneOfItsOwn(Due due) {
        FoundryNine used = new FoundryNine();
        Circuits.midway(used);
        long digest = used.digest();
        FoundryNine x = new FoundryNine();
        due.is("lines() of a new one", x.lines(), 0);
        due.is("told(5) of a new one", x.told(5), 0);
        due.is("hazards() of a new one", x.hazards(), 0);
        x.gate(0, 0, 0, 0, 0, 0);
        x.start();
        x.pass(100);
        due.is("digest() of the one ahead", used.digest(), digest);
        due.is("a new one is as another", Look.at(new FoundryNine()).equals(Look.at(new FoundryNine())), true);
    }
}
