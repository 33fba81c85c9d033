/** Promise 25. */
@Section("Promise 25: hazardsWith")
final class Promise25HazardsWith {
    /** As 0 becomes 1, three GATES are 1 for a moment; and DATA 0 of REGISTER 2 changes within HOLD. */
    private static FoundryNine some(int noted) {
        FoundryNine x = new FoundryNine();
        x.input(0);
        x.input(1);
        x.register(2, 1, 3, -1, 0);
        x.input(3);
        x.setWindow(2, 0, 20);
        x.gate(0, 4, 0, 0, 0, 3);
        for (int wire = 5; wire < 8; wire++) {
            x.gate(2, wire, 0, 4, 0, 0);
        }
        x.start();
        x.settle();
        x.pass(30);
        x.set(3, 1);
        for (int i = 1; i <= noted; i++) {
            x.set(1, i % 2);
        }
        x.settle();
        return x;
    }

    @Says({"Returns how many HAZARDS more hazards() would tell, if the INPUT was set so now, and it SETTLED.",
        "- `wire`: the WIRE of an INPUT", "- `value`: a VALUE"})
    static void howManyMore(Due due) {
        FoundryNine x = some(0);
        due.is("3 of GATES", x.hazardsWith(0, 1), 3);
        due.is("none, as it is so", x.hazardsWith(0, 0), 0);
        due.is("1 of the REGISTER", x.hazardsWith(1, 1), 1);
        due.is("hazards()", x.hazards(), 0);
        FoundryNine y = some(7);
        due.is("those that are noted do not count", y.hazardsWith(0, 1), 3);
        y.set(0, 1);
        y.pass(1);
        due.is("it begins to be COUNTED", y.hazardsWith(1, y.ofWire(1, 0)), 0);
        due.is("and 1 more, as DATA changes", y.hazardsWith(1, 1 - y.ofWire(1, 0)), 1);
        y.settle();
        due.is("but not of itself", y.hazards(), 10);
        due.is("once more", y.hazardsWith(0, 0), 0);
    }

    @Says("if the INPUT was set so now,")
    static void changesAndRisesAheadCount(Due due) {
        for (int gap = 0; gap <= 6; gap++) {
            FoundryNine x = Circuits.register(5, 5, 0);
            x.set(0, 1);
            x.pass(gap);
            due.is("CLOCK, " + gap + " behind DATA", x.hazardsWith(1, 1), gap < 5 ? 1 : 0);
            FoundryNine y = Circuits.register(5, 5, 0);
            y.set(1, 1);
            y.pass(gap);
            due.is("DATA, " + gap + " behind a RISE", y.hazardsWith(0, 1), gap < 5 ? 1 : 0);
        }
    }

    @Says("Returns how many HAZARDS more hazards() would tell,")
    static void itTellsNoneBeyond40(Due due) {
        for (int noted = 35; noted <= 42; noted++) {
            FoundryNine x = some(noted);
            int want = Math.min(3, 40 - Math.min(noted, 40));
            due.is("behind " + noted, x.hazardsWith(0, 1), want);
            due.is("behind " + noted + ", of a REGISTER", x.hazardsWith(1, 1 - x.ofWire(1, 0)), Math.min(1, want));
            x.set(0, 1);
            x.settle();
            due.is("hazards() then", x.hazards(), Math.min(40, noted + 3));
        }
    }

    @Says("if the INPUT was set so now, and it SETTLED.")
    static void itMayBeRestless(Due due) {
        FoundryNine x = new FoundryNine();
        x.input(0);
        Circuits.buzzers(x, 0, 1, 1, 2);
        x.start();
        x.settle();
        due.is("hazardsWith(0, 1)", x.hazardsWith(0, 1), 2);
        due.is("it was not RESTLESS", x.told(4), 0);
        x.set(0, 1);
        x.settle();
        due.is("hazards() then", x.hazards(), 2);
    }

    @Says("Throws `IllegalStateException` if it does not run")
    static void itDoesNotRun(Due due) {
        due.isRefused(Due.STATE, "ahead of START", Circuits::told, x -> x.hazardsWith(0, 1));
        due.isRefused(Due.STATE, "behind a LINE", Circuits::twentyNine, x -> x.hazardsWith(0, 1));
        due.isRefused(Due.STATE, "no WIRE, too", Circuits::told, x -> x.hazardsWith(24, 1));
        due.isRefused(Due.STATE, "no INPUT, too", Circuits::told, x -> x.hazardsWith(4, 2));
    }

    @Says("Throws `IndexOutOfBoundsException` if there is no such WIRE")
    static void noSuchWire(Due due) {
        for (int wire : Edges.NO_WIRES) {
            due.isRefused(Due.INDEX, "hazardsWith(" + wire + ", 1)", Circuits::midway, x -> x.hazardsWith(wire, 1));
            due.isRefused(Due.INDEX, "hazardsWith(" + wire + ", 2)", Circuits::midway, x -> x.hazardsWith(wire, 2));
        }
        FoundryNine x = new FoundryNine();
        x.input(23);
        x.input(0);
        x.start();
        due.is("hazardsWith(23, 1)", x.hazardsWith(23, 1), 0);
        due.is("hazardsWith(0, 1)", x.hazardsWith(0, 1), 0);
    }

    @Says("Throws `IllegalArgumentException` if no INPUT drives it,")
    static void noInputDrivesIt(Due due) {
        for (int wire : new int[] {3, 4, 6, 8, 23}) {
            due.isRefused(Due.ARGUMENT, "WIRE " + wire, Circuits::midway, x -> x.hazardsWith(wire, 1));
        }
    }

    @Says("or value is not 0 or 1")
    static void valueIsNot0Or1(Due due) {
        for (int value : Edges.NO_INPUTS_VALUES) {
            due.isRefused(Due.ARGUMENT, "hazardsWith(0, " + value + ")", Circuits::midway,
                    x -> x.hazardsWith(0, value));
        }
    }
}
