/** 4 HAZARDS. */
@Section("Terms")
final class Term4Hazards {
    private static final int DATA = 0;
    private static final int CLOCK = 1;
    private static final int LINE = 3;

    /** A REGISTER that has had a RISE just now, with HOLD 20; behind it one HAZARD 4 for each change of DATA. */
    private static FoundryNine afterARise() {
        FoundryNine x = Circuits.register(20, 20, 0);
        x.set(CLOCK, 1);
        return x;
    }

    private static void change(FoundryNine x, int times) {
        for (int i = 0; i < times; i++) {
            x.set(DATA, 1 - x.ofWire(DATA, 0));
        }
    }

    @Says("HAZARDS are noted, the first 40 since START")
    static void theFirst40AreNoted(Due due) {
        FoundryNine x = afterARise();
        due.is("none", x.hazards(), 0);
        for (int i = 1; i <= 45; i++) {
            change(x, 1);
            due.is("HAZARDS", x.hazards(), Math.min(i, 40));
        }
        due.is("the 40th", x.ofHazard(39, 0), 4);
        due.isThrown(Due.INDEX, "the 41st", () -> x.ofHazard(40, 0));
    }

    @Says("HAZARDS are noted, the first 40 since START")
    static void theFirst40StayThoseThatWereFirst(Due due) {
        FoundryNine x = afterARise();
        change(x, 39);
        x.pass(1);
        change(x, 1);
        x.pass(1);
        change(x, 1);
        due.is("the 39th", x.ofHazard(38, 2), 30);
        due.is("the 40th", x.ofHazard(39, 2), 31);
        due.is("the first", x.ofHazard(0, 2), 30);
    }

    @Says("HAZARDS are noted, the first 40 since START")
    static void the40thMayBeOneAsItSettles(Due due) {
        for (int noted = 35; noted <= 40; noted++) {
            FoundryNine x = new FoundryNine();
            x.input(0);
            x.input(1);
            x.register(2, 0, 1, -1, 0);
            x.setWindow(2, 0, 20);
            x.input(4);
            x.gate(0, 5, 4, 0, 0, 3);
            for (int wire = 23; wire >= 21; wire--) {
                x.gate(2, wire, 4, 5, 0, 0);
            }
            x.start();
            x.settle();
            x.pass(30);
            x.set(CLOCK, 1);
            change(x, noted);
            x.settle();
            due.is("HAZARDS ahead", x.hazards(), noted);
            x.set(4, 1);
            x.settle();
            due.is("HAZARDS of " + noted + " and 3", x.hazards(), Math.min(40, noted + 3));
            for (int i = noted; i < x.hazards(); i++) {
                due.is("its WIRE", x.ofHazard(i, 1), 21 + i - noted);
                due.is("its code", x.ofHazard(i, 0), 1);
            }
        }
    }

    @Says("HAZARDS are noted, the first 40 since START")
    static void sinceStart(Due due) {
        FoundryNine x = afterARise();
        change(x, 50);
        x.start();
        due.is("none, STARTED anew", x.hazards(), 0);
        x.pass(30);
        x.set(CLOCK, 1);
        change(x, 3);
        due.is("new ones", x.hazards(), 3);
        due.is("the first of them", x.ofHazard(0, 2), 30);
    }

    @Says("(what makes 2 of a VALUE does so past them, too):")
    static void pastThemA2IsMadeToo(Due due) {
        FoundryNine x = afterARise();
        change(x, 40);
        x.settle();
        x.pass(30);
        x.set(CLOCK, 0);
        x.set(CLOCK, 1);
        x.settle();
        due.is("known ahead", x.ofWire(LINE, 0), 0);
        x.set(DATA, 1);
        due.is("HOLD", x.pending(LINE), 2);
        x.set(2, 1);
        x.settle();
        x.set(2, 0);
        x.set(CLOCK, 0);
        due.is("known ahead, too", x.ofWire(LINE, 0), 0);
        x.set(CLOCK, 1);
        due.is("SETUP", x.pending(LINE), 2);
        due.is("HAZARDS", x.hazards(), 40);
    }

    /** 0 and 1 are INPUTS, 2 is 0 AND NOT 0: 1 for a moment, as 0 becomes 1. */
    private static FoundryNine spike() {
        FoundryNine x = new FoundryNine();
        x.input(0);
        x.input(1);
        x.gate(0, 3, 0, 0, 0, 4);
        x.gate(2, 2, 0, 3, 0, 1);
        x.start();
        x.settle();
        return x;
    }

    @Says("3 and 4 as above; 1 and 2 as it SETTLES, behind that,")
    static void hazards1And2AsItSettles(Due due) {
        FoundryNine x = spike();
        int time = x.told(0);
        x.set(0, 1);
        due.is("as it is set", x.hazards(), 0);
        due.is("it changes as it passes", x.pass(20), 3);
        due.is("as it passes", x.hazards(), 0);
        due.is("nothing comes as it SETTLES", x.settle(), 0);
        due.is("as it SETTLES", x.hazards(), 1);
        due.is("the TIME, behind that", x.ofHazard(0, 2), time + 20);
        due.is("SETTLES again", x.settle() + x.hazards(), 1);
        FoundryNine y = spike();
        y.set(0, 1);
        y.settle();
        due.is("the TIME of what came last", y.ofHazard(0, 2), time + 5);
        due.is("3 changed once", y.hazards(), 1);
    }

    @Says("also if it is RESTLESS:")
    static void hazards1And2AlsoIfItIsRestless(Due due) {
        for (int more = 0; more < 2; more++) {
            FoundryNine x = new FoundryNine();
            x.input(0);
            Circuits.buzzers(x, 0, 1, 1, 1);
            x.gate(1, 2, 0, 0, 0, 3);
            x.start();
            x.settle();
            x.set(0, 1);
            x.setDelay(1, more);
            x.pass(more);
            due.is("RESTLESS ahead", x.told(4), 0);
            due.is("settle()", x.settle(), 300);
            due.is("RESTLESS", x.told(4), 1);
            due.is("HAZARDS", x.hazards(), 1);
            due.is("its WIRE", x.ofHazard(0, 1), 1);
            due.is("its TIME is that of what came last", x.ofHazard(0, 2), x.told(0));
        }
    }

    @Says("for each WIRE that a GATE drives, by numbers,")
    static void forEachWireThatAGateDrivesByNumbers(Due due) {
        FoundryNine x = new FoundryNine();
        x.input(5);
        x.gate(0, 6, 5, 0, 0, 3);
        int[] wires = {23, 0, 22, 1, 10, 2};
        for (int wire : wires) {
            x.gate(2, wire, 5, 6, 0, 0);
        }
        x.start();
        x.settle();
        x.set(5, 1);
        x.settle();
        int[] sorted = {0, 1, 2, 10, 22, 23};
        due.is("HAZARDS", x.hazards(), 6);
        for (int i = 0; i < 6; i++) {
            due.is("its WIRE", x.ofHazard(i, 1), sorted[i]);
        }
    }

    @Says("for each WIRE that a GATE drives,")
    static void notForInputsAndRegisters(Due due) {
        FoundryNine x = new FoundryNine();
        x.input(0);
        int clock = Circuits.turning(x, 0, 1, 2, 3, 6, 7);
        int data = Circuits.turning(x, 0, 10, 1, 4);
        x.register(20, data, clock, -1, 0);
        x.gate(1, 21, 20, 0, 0, 0);
        x.start();
        x.settle();
        for (int i = 0; i < 2; i++) {
            x.set(0, 1);
            x.settle();
            x.set(0, 0);
            x.settle();
        }
        due.is("the REGISTER was 1 for a moment, so its GATE", Circuits.hazardsOf(x, 21), 3);
        due.is("but not the REGISTER", Circuits.hazardsOf(x, 20), 0);
        due.is("nor the INPUT", Circuits.hazardsOf(x, 0), 0);
    }

    @Says("1, if it is the same as then, and it changed;")
    static void hazard1IfItIsTheSameAsThenAndItChanged(Due due) {
        FoundryNine none = new FoundryNine();
        none.input(0);
        none.input(1);
        none.gate(2, 2, 0, 1, 0, 1);
        none.start();
        none.settle();
        none.set(0, 1);
        none.settle();
        due.is("it did not change", none.hazards(), 0);
        for (int times = 2; times <= 6; times += 2) {
            due.is("the same, changed " + times + " times", hazardBehind(times, 1), 1);
            due.is("the same, 1, changed " + times + " times", hazardBehind(times, 0), 1);
        }
    }

    @Says("2, if it is not, and it changed three times or more;")
    static void hazard2IfItIsNotAndItChangedThreeTimesOrMore(Due due) {
        due.is("changed once", hazardBehind(1, 1), 0);
        due.is("changed three times", hazardBehind(3, 1), 2);
        due.is("changed four times, but it is the same", hazardBehind(4, 1), 1);
        due.is("changed five times", hazardBehind(5, 1), 2);
        due.is("from 1, changed once", hazardBehind(1, 0), 0);
        due.is("from 1, changed three times", hazardBehind(3, 0), 2);
        due.is("from 1, changed five times", hazardBehind(5, 0), 2);
    }

    /** The code of what is noted for a WIRE that changed so often, from 0, or from 1 if kind is 0, that is NOT. */
    private static int hazardBehind(int times, int kind) {
        FoundryNine x = new FoundryNine();
        x.input(0);
        int[] at = new int[times];
        for (int i = 0; i < times; i++) {
            at[i] = 2 * i + 1;
        }
        int wire = Circuits.turning(x, 0, 1, at);
        x.gate(kind, 23, wire, 0, 0, 0);
        x.start();
        x.settle();
        x.set(0, 1);
        x.settle();
        return Circuits.lastHazardOf(x, 23);
    }

    /**
     * A GATE that is what a REGISTER is, with that SETUP and HOLD, as its DATA and CLOCK turn at these times; the
     * REGISTER is reset ahead, or it is 2.
     */
    private static FoundryNine follower(boolean reset, int setup, int hold, int[] data, int[] clock) {
        FoundryNine x = new FoundryNine();
        x.input(0);
        x.input(1);
        int dataWire = Circuits.turning(x, 0, 2, data);
        int clockWire = Circuits.turning(x, 0, 8, clock);
        x.register(22, dataWire, clockWire, 1, 0);
        x.setWindow(x.lines() - 1, setup, hold);
        x.gate(1, 23, 22, 0, 0, 0);
        x.start();
        x.settle();
        if (reset) {
            x.set(1, 1);
            x.settle();
            x.set(1, 0);
            x.settle();
        }
        x.pass(30);
        x.set(0, 1);
        return x;
    }

    private static void isFollowed(Due due, String text, FoundryNine x, int from, int times, int to, int code) {
        x.pass(20);
        due.is(text + ": from", x.ofWire(23, 3), from);
        due.is(text + ": it changed", x.ofWire(23, 2), times);
        due.is(text + ": to", x.ofWire(23, 0), to);
        x.settle();
        due.is(text + ": HAZARD", Circuits.lastHazardOf(x, 23), code);
    }

    @Says("but none, if it was 2 then, or is now.")
    static void noneIfItWas2ThenOrIsNow(Due due) {
        isFollowed(due, "2, 1, 0, 1", follower(false, 0, 0, new int[] {1, 8, 12}, new int[] {5, 7, 10, 13, 15}),
                2, 3, 1, 0);
        isFollowed(due, "2, 1, 2", follower(false, 0, 3, new int[] {1, 6}, new int[] {5}), 2, 2, 2, 0);
        isFollowed(due, "0, 1, 0, 2", follower(true, 0, 3, new int[] {1, 8, 11}, new int[] {5, 7, 10}), 0, 3, 2, 0);
    }

    @Says("but none, if it was 2 then, or is now.")
    static void butIfItWas2Between(Due due) {
        isFollowed(due, "0, 2, 1", follower(true, 5, 0, new int[] {1}, new int[] {2, 3, 10}), 0, 2, 1, 0);
        isFollowed(due, "0, 2, 0", follower(true, 5, 0, new int[] {1, 4}, new int[] {2, 3, 10}), 0, 2, 0, 1);
        isFollowed(due, "0, 1, 2, 1", follower(true, 0, 3, new int[] {1, 6, 10}, new int[] {5, 7, 15}), 0, 3, 1, 2);
    }

    @Says("with the VALUE that it had as it began to be COUNTED, and how often it changed since:")
    static void withTheValueAsItBeganToBeCounted(Due due) {
        FoundryNine x = spike();
        x.set(0, 1);
        x.pass(2);
        due.is("1 for now", x.ofWire(2, 0), 1);
        x.set(1, 1);
        due.is("it began to be COUNTED as 1", x.ofWire(2, 3), 1);
        x.settle();
        due.is("so it changed once", x.hazards(), 0);
        due.is("and is", x.ofWire(2, 0), 0);
    }

    @Says("All WIRES begin to be COUNTED at START (ahead of the INPUTS),")
    static void countedAtStartAheadOfTheInputs(Due due) {
        FoundryNine x = spike();
        x.set(0, 1);
        x.pass(20);
        x.start();
        due.is("the INPUT changed", x.ofWire(0, 2), 1);
        due.is("the INPUT was", x.ofWire(0, 3), 2);
        due.is("a GATE did not", x.ofWire(2, 2), 0);
        due.is("a GATE was", x.ofWire(2, 3), 2);
        x.pass(20);
        due.is("a GATE changed since START", x.ofWire(2, 2), 1);
        due.is("a GATE was, still", x.ofWire(2, 3), 2);
        x.settle();
        due.is("none, as it was 2", x.hazards(), 0);
    }

    @Says("ahead of what comes of an INPUT that is set,")
    static void countedAheadOfAnInputThatIsSet(Due due) {
        FoundryNine x = spike();
        x.set(0, 1);
        due.is("the INPUT changed", x.ofWire(0, 2), 1);
        due.is("the INPUT was", x.ofWire(0, 3), 0);
        x.pass(20);
        due.is("2 changed", x.ofWire(2, 2), 2);
        x.set(1, 1);
        due.is("2 changed since another INPUT was set", x.ofWire(2, 2), 0);
        due.is("0 did not", x.ofWire(0, 2), 0);
        due.is("0 was", x.ofWire(0, 3), 1);
        due.is("1 did", x.ofWire(1, 2), 1);
        x.settle();
        due.is("so nothing is noted", x.hazards(), 0);
    }

    @Says("and behind each time that it SETTLES.")
    static void countedBehindEachTimeThatItSettles(Due due) {
        FoundryNine x = spike();
        due.is("behind the first", x.ofWire(3, 2), 0);
        due.is("it was", x.ofWire(3, 3), 1);
        x.set(0, 1);
        x.pass(20);
        due.is("not behind what passes", x.ofWire(2, 2), 2);
        x.settle();
        due.is("behind one as which nothing came", x.ofWire(2, 2), 0);
        due.is("the INPUT, too", x.ofWire(0, 2), 0);
        due.is("the INPUT was", x.ofWire(0, 3), 1);
        FoundryNine restless = new FoundryNine();
        restless.input(0);
        Circuits.buzzers(restless, 0, 1, 1, 1);
        restless.start();
        restless.settle();
        restless.set(0, 1);
        restless.settle();
        due.is("behind one as which it is RESTLESS", restless.ofWire(1, 2), 0);
    }

    @Says("Of each the code, the WIRE (of 3 and 4 that which the REGISTER drives), and the TIME are kept.")
    static void codeWireAndTimeAreKept(Due due) {
        FoundryNine x = new FoundryNine();
        x.input(0);
        x.input(1);
        x.register(17, 0, 1, -1, 0);
        x.gate(0, 9, 0, 0, 0, 2);
        x.gate(3, 22, 0, 9, 0, 0);
        x.setWindow(2, 4, 4);
        x.start();
        x.settle();
        x.pass(40);
        int time = x.told(0);
        x.set(0, 1);
        x.pass(3);
        x.set(1, 1);
        x.pass(2);
        x.set(0, 0);
        x.pass(50);
        x.settle();
        int[][] want = {{3, 17, time + 3}, {4, 17, time + 5}, {1, 22, time + 55}};
        due.is("HAZARDS", x.hazards(), 3);
        for (int i = 0; i < 3; i++) {
            for (int what = 0; what < 3; what++) {
                due.is("ofHazard(" + i + ", " + what + ")", x.ofHazard(i, what), want[i][what]);
            }
        }
    }
}
