/** What stands ahead of the terms that bear a number, and behind them. */
@Section("Terms")
final class Term0Values {
    @Says("All numbers are whole. A VALUE is 0, 1 or 2 (not known).")
    static void aValueIs0Or1Or2(Due due) {
        FoundryNine x = new FoundryNine();
        x.input(0);
        due.is("not known", x.ofWire(0, 0), 2);
        x.start();
        due.is("0", x.ofWire(0, 0), 0);
        x.set(0, 1);
        due.is("1", x.ofWire(0, 0), 1);
        due.isThrown(Due.ARGUMENT, "2 is a VALUE, but none to which an INPUT is set", () -> x.set(0, 2));
        due.isThrown(Due.ARGUMENT, "3 is none", () -> x.set(0, 3));
    }

    @Says("A method that throws an exception changes nothing.")
    static void whatThrowsChangesNothingInAnyState(Due due) {
        Due.Calls[] states = {Circuits::none, Circuits::told, Circuits::started, Circuits::midway,
            Circuits::twentyNine, Circuits::thirty, Circuits::eachWireDriven};
        for (int state = 0; state < states.length; state++) {
            String text = "in state " + state;
            Due.Calls before = states[state];
            due.isRefused(Due.INDEX, "input(24) " + text, before, x -> x.input(24));
            due.isRefused(Due.INDEX, "gate with c 24 " + text, before, x -> x.gate(7, 0, 1, 2, 24, 3));
            due.isRefused(Due.INDEX, "register with reset 24 " + text, before, x -> x.register(0, 1, 2, 24, 3));
            due.isRefused(Due.INDEX, "setWindow(30, ..) " + text, before, x -> x.setWindow(30, 1, 1));
            due.isRefused(Due.INDEX, "setDelay(30, ..) " + text, before, x -> x.setDelay(30, 1));
            due.isRefused(Due.INDEX, "ofFlaw(-1, 0) " + text, before, x -> x.ofFlaw(-1, 0));
            due.isRefused(Due.INDEX, "arrival(24) " + text, before, x -> x.arrival(24));
            due.isRefused(Due.INDEX, "users(24) " + text, before, x -> x.users(24));
            due.isRefused(Due.ARGUMENT, "told(6) " + text, before, x -> x.told(6));
            due.isRefused(Due.ARGUMENT, "ofWire(0, 4) " + text, before, x -> x.ofWire(0, 4));
            due.isRefused(Due.INDEX, "pending(30) " + text, before, x -> x.pending(30));
            due.isRefused(Due.INDEX, "ofHazard(40, 0) " + text, before, x -> x.ofHazard(40, 0));
            due.isRefused(Due.INDEX, "longestWith(30, 0) " + text, before, x -> x.longestWith(30, 0));
        }
    }

    @Says("If several exceptions apply, the one that is named first is thrown.")
    static void theOneThatIsNamedFirst(Due due) {
        Due.Calls full = Circuits::thirty;
        due.isRefused(Due.INDEX, "input: no WIRE, 30 LINES", full, x -> x.input(24));
        due.isRefused(Due.ARGUMENT, "gate: kind, WIRE, 30 LINES", full, x -> x.gate(8, 24, 0, 0, 0, 0));
        due.isRefused(Due.ARGUMENT, "gate: delay, WIRE, 30 LINES", full, x -> x.gate(0, 24, 0, 0, 0, 21));
        due.isRefused(Due.INDEX, "gate: WIRE, 30 LINES", full, x -> x.gate(0, 0, 24, 0, 0, 0));
        due.isRefused(Due.INDEX, "register: WIRE, delay, 30 LINES", full, x -> x.register(0, 0, 0, 24, 21));
        due.isRefused(Due.ARGUMENT, "register: delay, 30 LINES", full, x -> x.register(0, 0, 0, 0, 21));
        due.isRefused(Due.INDEX, "setWindow: LINE, setup", full, x -> x.setWindow(30, 21, 21));
        due.isRefused(Due.INDEX, "setDelay: LINE, delay", full, x -> x.setDelay(30, 21));
        due.isRefused(Due.INDEX, "ofFlaw: FLAW, what", full, x -> x.ofFlaw(54, 2));
        due.isRefused(Due.STATE, "set: not running, WIRE, value", full, x -> x.set(24, 2));
        due.isRefused(Due.STATE, "set: not running, no INPUT", full, x -> x.set(4, 0));
        due.isRefused(Due.INDEX, "set: WIRE, value", Circuits::midway, x -> x.set(24, 2));
        due.isRefused(Due.STATE, "pass: not running, by", full, x -> x.pass(101));
        due.isRefused(Due.INDEX, "ofWire: WIRE, what", full, x -> x.ofWire(24, 4));
        due.isRefused(Due.INDEX, "ofHazard: HAZARD, what", full, x -> x.ofHazard(40, 3));
        due.isRefused(Due.STATE, "wouldBe: not running, WIRE", full, x -> x.wouldBe(24, 2, 24));
        due.isRefused(Due.STATE, "wouldBe: not running, value", full, x -> x.wouldBe(0, 2, 0));
        due.isRefused(Due.INDEX, "wouldBe: WIRE, value", Circuits::midway, x -> x.wouldBe(24, 2, 0));
        due.isRefused(Due.INDEX, "wouldBe: the other WIRE, value", Circuits::midway, x -> x.wouldBe(0, 2, 24));
        due.isRefused(Due.INDEX, "wouldBe: the other WIRE, no INPUT", Circuits::midway, x -> x.wouldBe(4, 0, 24));
        due.isRefused(Due.STATE, "hazardsWith: not running, WIRE", full, x -> x.hazardsWith(24, 2));
        due.isRefused(Due.STATE, "hazardsWith: not running, value", full, x -> x.hazardsWith(0, 2));
        due.isRefused(Due.INDEX, "hazardsWith: WIRE, value", Circuits::midway, x -> x.hazardsWith(24, 2));
        due.isRefused(Due.INDEX, "longestWith: LINE, delay", full, x -> x.longestWith(30, 21));
    }

    @Says({"Ahead of the calls `input`, `gate`, `register`, `setWindow`, `setDelay`, `lines` the interface says: ----"
        + " lines: each call tells the number of the LINE;"})
    static void eachCallTellsTheNumberOfTheLine(Due due) {
        FoundryNine x = new FoundryNine();
        for (int line = 0; line < 30; line += 3) {
            due.is("input", x.input(0), line);
            due.is("gate", x.gate(0, 1, 0, 0, 0, 0), line + 1);
            due.is("register", x.register(2, 0, 1, -1, 0), line + 2);
        }
    }

    @Says("as one is added, it does not run any more, all else stays as it was.")
    static void asOneIsAddedItDoesNotRunAnyMore(Due due) {
        Due.CallOn[] added = {x -> x.input(8), x -> x.gate(0, 8, 0, 0, 0, 1), x -> x.register(8, 0, 1, -1, 1)};
        for (Due.CallOn add : added) {
            FoundryNine x = new FoundryNine();
            Circuits.midway(x);
            due.is("it runs", x.isRunning(), true);
            add.answer(x);
            due.is("it runs behind a LINE", x.isRunning(), false);
            due.isThrown(Due.STATE, "settle() behind a LINE", () -> x.settle());
            due.is("it may be STARTED anew", x.start() >= 0 && x.isRunning(), true);
        }
        FoundryNine refused = new FoundryNine();
        Circuits.midway(refused);
        due.isThrown(Due.INDEX, "none is added", () -> refused.input(24));
        due.is("it runs on, as none is added", refused.isRunning(), true);
    }

    @Says("all else stays as it was.")
    static void allElseStaysAsALineIsAdded(Due due) {
        Due.CallOn[] added = {x -> x.input(8), x -> x.gate(0, 8, 0, 0, 0, 1), x -> x.register(8, 0, 1, -1, 1)};
        for (Due.CallOn add : added) {
            FoundryNine x = new FoundryNine();
            FoundryNine twin = new FoundryNine();
            Circuits.midway(x);
            Circuits.midway(twin);
            add.answer(x);
            due.is("the new LINE has nothing PENDING", x.pending(8), -1);
            for (int what = 0; what <= 5; what++) {
                due.is("told(" + what + ")", x.told(what), twin.told(what));
            }
            for (int wire = 0; wire < 24; wire++) {
                for (int what = 0; what <= 3; what++) {
                    due.is("ofWire(" + wire + ", " + what + ")", x.ofWire(wire, what), twin.ofWire(wire, what));
                }
            }
            for (int line = 0; line < 8; line++) {
                due.is("pending(" + line + ")", x.pending(line), twin.pending(line));
            }
            due.is("hazards()", x.hazards(), twin.hazards());
            for (int hazard = 0; hazard < twin.hazards(); hazard++) {
                for (int what = 0; what <= 2; what++) {
                    due.is("ofHazard", x.ofHazard(hazard, what), twin.ofHazard(hazard, what));
                }
            }
            due.is("the SETUP", x.setWindow(3, 0, 0), 6);
            due.is("a DELAY", x.setDelay(4, 0), 3);
        }
    }

    @Says("---- what would be (nothing is changed).")
    static void whatWouldBeChangesNothing(Due due) {
        Due.Calls[] states = {Circuits::started, Circuits::midway, Circuits::eachWireDriven};
        for (int state = 0; state < states.length; state++) {
            Due.Calls before = states[state];
            due.changesNothing("longestWith", before, x -> x.longestWith(4, 20));
            due.changesNothing("meanArrival", before, x -> (long) x.meanArrival());
            due.changesNothing("digest", before, x -> x.digest());
        }
        for (int state = 0; state < 2; state++) {
            Due.Calls before = states[state];
            due.changesNothing("wouldBe", before, x -> x.wouldBe(0, 1, 3));
            due.changesNothing("wouldBe of what it is", before, x -> x.wouldBe(0, x.ofWire(0, 0), 3));
            due.changesNothing("wouldBe, RESTLESS", before, x -> x.wouldBe(2, 1, 3));
            due.changesNothing("hazardsWith", before, x -> x.hazardsWith(0, 1));
            due.changesNothing("hazardsWith, RESTLESS", before, x -> x.hazardsWith(2, 1));
            due.changesNothing("settlesIn", before, x -> x.settlesIn());
        }
    }
}
