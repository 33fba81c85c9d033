/** Promise 24. */
@Section("Promise 24: wouldBe")
final class Promise24WouldBe {
    /** WIRE 1 is not 0, WIRE 23 is 0 AND WIRE 1, WIRE 5 is what 0 was as WIRE 1 rose. */
    private static void some(FoundryNine x) {
        x.input(0);
        x.gate(0, 1, 0, 0, 0, 2);
        x.gate(2, 23, 0, 1, 0, 1);
        x.register(5, 0, 1, -1, 3);
        x.start();
    }

    @Says({"Returns its VALUE, if the INPUT was set so now, and it SETTLED.", "- `wire`: the WIRE of an INPUT",
        "- `value`: a VALUE", "- `other`: a WIRE"})
    static void itsValueIfTheInputWasSetSo(Due due) {
        FoundryNine x = new FoundryNine();
        some(x);
        due.is("the INPUT itself, 1", x.wouldBe(0, 1, 0), 1);
        due.is("the INPUT itself, 0", x.wouldBe(0, 0, 0), 0);
        due.is("WIRE 1, 1", x.wouldBe(0, 1, 1), 0);
        due.is("WIRE 1, 0: what is PENDING comes", x.wouldBe(0, 0, 1), 1);
        due.is("WIRE 23", x.wouldBe(0, 1, 23), 0);
        due.is("WIRE 5, 2: it never rose", x.wouldBe(0, 0, 5), 2);
        due.is("WIRE 22, that nobody drives", x.wouldBe(0, 1, 22), 2);
        x.settle();
        x.set(0, 1);
        due.is("WIRE 5, that rises behind that", x.wouldBe(0, 0, 5), 2);
        x.settle();
        due.is("WIRE 5, as 0 fell", x.wouldBe(0, 0, 5), 0);
        due.is("WIRE 1, of what it is", x.wouldBe(0, 1, 1), 0);
        due.is("as it is", x.ofWire(0, 0), 1);
    }

    @Says("if the INPUT was set so now, and it SETTLED.")
    static void itMayBeRestless(Due due) {
        for (int more = 0; more < 2; more++) {
            FoundryNine x = new FoundryNine();
            x.input(0);
            Circuits.buzzers(x, 0, 1, 1, 1);
            x.gate(1, 2, 0, 0, 0, 20);
            if (more == 1) {
                Circuits.buzzers(x, 0, 3, 20, 1);
            }
            x.start();
            x.settle();
            int[] would = new int[4];
            for (int wire = 0; wire < 4; wire++) {
                would[wire] = x.wouldBe(0, 1, wire);
            }
            due.is("it was not RESTLESS", x.told(4), 0);
            x.set(0, 1);
            x.settle();
            due.is("it is RESTLESS", x.told(4), 1);
            for (int wire = 0; wire < 4; wire++) {
                due.is("WIRE " + wire, would[wire], x.ofWire(wire, 0));
            }
        }
    }

    @Says("if the INPUT was set so now, and it SETTLED.")
    static void itIsRestlessHoweverSlow(Due due) {
        for (int delay = 0; delay <= 20; delay++) {
            FoundryNine x = new FoundryNine();
            x.input(0);
            Circuits.buzzers(x, 0, 1, delay, 1);
            x.start();
            x.settle();
            due.is("behind 300 of DELAY " + delay, x.wouldBe(0, 1, 1), 1);
            x.set(0, 1);
            x.pass(delay);
            due.is("RESTLESS as it passed, or not", x.told(4), delay == 0 ? 1 : 0);
            due.is("behind 300 more of DELAY " + delay, x.wouldBe(0, 1, 1), delay == 0 ? 1 : 0);
        }
    }

    @Says("if the INPUT was set so now,")
    static void pastTheHazardsThatAreNoted(Due due) {
        FoundryNine x = Circuits.register(0, 20, 0);
        x.set(1, 1);
        for (int i = 1; i <= 40; i++) {
            x.set(0, i % 2);
        }
        x.pass(19);
        due.is("2, within HOLD", x.wouldBe(0, 1, 3), 2);
        x.set(2, 1);
        x.settle();
        x.set(2, 0);
        due.is("2, within HOLD, of 0", x.wouldBe(0, 1, 3), 2);
        x.pass(1);
        due.is("0, behind HOLD", x.wouldBe(0, 1, 3), 0);
    }

    @Says("if the INPUT was set so now,")
    static void changesAndRisesAheadCount(Due due) {
        for (int gap = 0; gap <= 6; gap++) {
            FoundryNine x = Circuits.register(5, 5, 0);
            x.set(0, 1);
            x.pass(gap);
            due.is("CLOCK, " + gap + " behind DATA", x.wouldBe(1, 1, 3), gap < 5 ? 2 : 1);
            FoundryNine y = Circuits.register(5, 5, 0);
            y.set(1, 1);
            y.pass(gap);
            due.is("DATA, " + gap + " behind a RISE", y.wouldBe(0, 1, 3), gap < 5 ? 2 : 0);
        }
    }

    /** DATA 2 and CLOCK 3 of a REGISTER come of the INPUTS 0 and 1, 5 later each. */
    private static FoundryNine race() {
        FoundryNine x = new FoundryNine();
        x.input(0);
        x.input(1);
        x.input(9);
        x.gate(1, 2, 0, 0, 0, 5);
        x.gate(1, 3, 1, 0, 0, 5);
        x.register(4, 2, 3, -1, 0);
        x.start();
        x.settle();
        x.pass(1);
        return x;
    }

    @Says("if the INPUT was set so now,")
    static void whatIsPendingComesInItsOrder(Due due) {
        for (int first = 0; first < 2; first++) {
            FoundryNine one = race();
            one.set(first, 1);
            due.is("the one of this INPUT is behind it", one.wouldBe(1 - first, 1, 4), 1 - first);
            FoundryNine two = race();
            two.set(first, 1);
            two.set(1 - first, 1);
            due.is("both are ahead", two.wouldBe(9, 1, 4), 1 - first);
            two.settle();
            due.is("so it is", two.ofWire(4, 0), 1 - first);
        }
    }

    @Says("Throws `IllegalStateException` if it does not run")
    static void itDoesNotRun(Due due) {
        due.isRefused(Due.STATE, "ahead of START", Circuits::told, x -> x.wouldBe(0, 1, 0));
        due.isRefused(Due.STATE, "behind a LINE", Circuits::twentyNine, x -> x.wouldBe(0, 1, 0));
        due.isRefused(Due.STATE, "no WIRE, too", Circuits::told, x -> x.wouldBe(24, 1, 0));
        due.isRefused(Due.STATE, "no other WIRE, too", Circuits::told, x -> x.wouldBe(0, 1, 24));
        due.isRefused(Due.STATE, "no INPUT, too", Circuits::told, x -> x.wouldBe(4, 2, 0));
    }

    @Says("Throws `IndexOutOfBoundsException` if there is no such WIRE")
    static void noSuchWire(Due due) {
        for (int wire : Edges.NO_WIRES) {
            due.isRefused(Due.INDEX, "wouldBe(" + wire + ", 1, 0)", Circuits::midway, x -> x.wouldBe(wire, 1, 0));
            due.isRefused(Due.INDEX, "wouldBe(0, 1, " + wire + ")", Circuits::midway, x -> x.wouldBe(0, 1, wire));
            due.isRefused(Due.INDEX, "wouldBe(" + wire + ", 2, 0)", Circuits::midway, x -> x.wouldBe(wire, 2, 0));
            due.isRefused(Due.INDEX, "wouldBe(0, 2, " + wire + ")", Circuits::midway, x -> x.wouldBe(0, 2, wire));
            due.isRefused(Due.INDEX, "wouldBe(4, 1, " + wire + ")", Circuits::midway, x -> x.wouldBe(4, 1, wire));
        }
        FoundryNine x = new FoundryNine();
        x.input(23);
        x.input(0);
        x.start();
        due.is("wouldBe(23, 1, 0)", x.wouldBe(23, 1, 0), 0);
        due.is("wouldBe(0, 1, 23)", x.wouldBe(0, 1, 23), 0);
        due.is("wouldBe(23, 1, 23)", x.wouldBe(23, 1, 23), 1);
    }

    @Says("Throws `IllegalArgumentException` if no INPUT drives it,")
    static void noInputDrivesIt(Due due) {
        for (int wire : new int[] {3, 4, 6, 8, 23}) {
            due.isRefused(Due.ARGUMENT, "WIRE " + wire, Circuits::midway, x -> x.wouldBe(wire, 1, 0));
        }
    }

    @Says("or value is not 0 or 1")
    static void valueIsNot0Or1(Due due) {
        for (int value : Edges.NO_INPUTS_VALUES) {
            due.isRefused(Due.ARGUMENT, "wouldBe(0, " + value + ", 0)", Circuits::midway, x -> x.wouldBe(0, value, 0));
        }
    }
}
