/** 3 RUNNING: a REGISTER that is ASKED. */
@Section("Terms")
final class Term3Registers {
    private static final int DATA = 0;
    private static final int CLOCK = 1;
    private static final int RESET = 2;
    private static final int LINE = 3;

    /** A REGISTER without RESET, 2, by DATA 0 and CLOCK 1; and REGISTER 3 of that as another pin. */
    private static FoundryNine byRegister(int data, int clock, int reset) {
        FoundryNine x = new FoundryNine();
        x.input(0);
        x.input(1);
        x.register(2, 0, 1, -1, 0);
        x.register(3, data, clock, reset, 4);
        x.input(4);
        x.input(5);
        x.start();
        return x;
    }

    /** Makes the REGISTER 2 this VALUE; for 2 its DATA changes too late. */
    private static void make(FoundryNine x, int value) {
        x.set(1, 0);
        x.setWindow(2, value == 2 ? 1 : 0, 0);
        x.set(0, value == 2 ? 1 - x.ofWire(0, 0) : value);
        x.set(1, 1);
        x.pass(0);
    }

    @Says("RESET: if it is 1 now, 0 is PENDING, as below;")
    static void resetThatIs1(Due due) {
        FoundryNine x = Circuits.register(0, 0, 5);
        x.set(RESET, 1);
        due.is("from 0 to 1", x.pending(LINE), 0);
        due.is("as below: its TIME", x.told(2), 35);
        FoundryNine y = byRegister(4, 5, 2);
        make(y, 1);
        due.is("from 2 to 1", y.pending(3), 0);
        make(y, 2);
        y.pass(20);
        make(y, 1);
        due.is("from 0 over 2 to 1", y.pending(3), 0);
    }

    @Says("RESET: if it is 1 now,")
    static void resetThatIsNot1(Due due) {
        FoundryNine x = Circuits.register(0, 0, 5);
        x.set(RESET, 1);
        x.settle();
        x.set(RESET, 0);
        due.is("from 1 to 0", x.pending(LINE), -1);
        FoundryNine y = byRegister(4, 5, 2);
        make(y, 0);
        due.is("from 2 to 0", y.pending(3), -1);
        make(y, 2);
        due.is("from 0 to 2", y.pending(3), -1);
        make(y, 1);
        y.pass(20);
        make(y, 2);
        due.is("from 1 to 2", y.pending(3), -1);
    }

    @Says("CLOCK, if it was 0 and is 1 now,")
    static void clockThatWas0AndIs1(Due due) {
        for (int from = 0; from < 3; from++) {
            for (int to = 0; to < 3; to++) {
                FoundryNine x = byRegister(4, 2, -1);
                if (from != 2) {
                    make(x, from);
                }
                x.pass(20);
                x.set(4, 1);
                x.pass(20);
                due.is("ahead of it", x.pending(3), -1);
                make(x, to);
                due.is("CLOCK from " + from + " to " + to, x.pending(3), from == 0 && to == 1 ? 1 : -1);
            }
        }
        FoundryNine over2 = byRegister(4, 2, -1);
        make(over2, 0);
        make(over2, 2);
        make(over2, 1);
        due.is("CLOCK from 0 over 2 to 1", over2.pending(3), -1);
    }

    /** CLOCK is 1, then 0 for a moment, then 1, in one call. */
    @Says("CLOCK, if it was 0 and is 1 now,")
    static void clockThatWas0JustAhead(Due due) {
        FoundryNine x = new FoundryNine();
        x.input(0);
        x.input(1);
        int clock = Circuits.turning(x, 0, 2, 2, 5, 8);
        x.register(20, 1, clock, -1, 0);
        x.start();
        x.settle();
        x.set(0, 1);
        x.settle();
        due.is("CLOCK", x.ofWire(clock, 0), 1);
        due.is("the REGISTER", x.ofWire(20, 0), 0);
        x.set(1, 1);
        x.set(0, 0);
        x.pass(4);
        due.is("ahead of the RISE", x.ofWire(20, 0), 0);
        x.pass(4);
        due.is("it rose between", x.ofWire(20, 0), 1);
        due.is("CLOCK, behind it", x.ofWire(clock, 0), 0);
    }

    @Says("and RESET, if it has one, is 0 (a RISE):")
    static void resetThatIs0(Due due) {
        for (int reset = 0; reset < 3; reset++) {
            FoundryNine x = byRegister(4, 5, 2);
            if (reset != 2) {
                make(x, reset);
            }
            x.setWindow(3, 0, 20);
            x.pass(20);
            x.set(5, 1);
            due.is("RESET " + reset + ": PENDING", x.pending(3), reset == 0 ? 0 : -1);
            x.set(4, 1);
            due.is("RESET " + reset + ": there was a RISE for HOLD, or none", x.hazards(), reset == 0 ? 1 : 0);
        }
        FoundryNine none = byRegister(4, 5, -1);
        none.set(5, 1);
        due.is("no RESET", none.pending(3), 0);
    }

    @Says("A REGISTER that is ASKED, as RESET, CLOCK or DATA changed")
    static void onlyWhatChangedIsLookedAt(Due due) {
        FoundryNine x = Circuits.register(20, 20, 5);
        x.set(RESET, 1);
        x.settle();
        x.set(CLOCK, 1);
        due.is("CLOCK, while RESET is 1", x.pending(LINE), -1);
        x.set(DATA, 1);
        due.is("DATA, while RESET is 1", x.pending(LINE), -1);
        x.set(RESET, 0);
        due.is("RESET is 0 again, while CLOCK is 1", x.pending(LINE), -1);
        x.set(DATA, 0);
        due.is("DATA, while CLOCK is 1", x.pending(LINE), -1);
        x.set(CLOCK, 0);
        x.pass(30);
        x.set(CLOCK, 1);
        x.settle();
        x.pass(30);
        x.set(DATA, 1);
        due.is("DATA, long behind the RISE", x.pending(LINE), -1);
        due.is("HAZARDS", x.hazards(), 0);
    }

    @Says({"with d as the VALUE of DATA;", "d is PENDING, as below;"})
    static void dIsTheValueOfData(Due due) {
        for (int value = 0; value < 3; value++) {
            FoundryNine x = byRegister(2, 5, -1);
            if (value != 2) {
                make(x, value);
            }
            x.set(5, 1);
            due.is("DATA " + value, x.pending(3), value);
        }
        FoundryNine y = Circuits.register(0, 0, 4);
        y.set(DATA, 1);
        y.set(CLOCK, 1);
        y.set(DATA, 0);
        due.is("as below: its TIME", y.told(2), 34);
        due.is("DATA as it RISES, not as it comes", y.settle(), 1);
        due.is("DATA as it RISES", y.ofWire(LINE, 0), 1);
    }

    @Says("if DATA changed at a TIME above now - SETUP, HAZARD 3 is noted, and d is 2;")
    static void dataThatChangedWithinSetup(Due due) {
        for (int setup = 0; setup <= 20; setup++) {
            for (int gap = 0; gap <= 21; gap++) {
                FoundryNine x = Circuits.register(setup, 0, 2);
                x.set(DATA, 1);
                x.pass(gap);
                x.set(CLOCK, 1);
                String text = "SETUP " + setup + ", " + gap + " behind";
                due.is(text + ": HAZARDS", x.hazards(), gap < setup ? 1 : 0);
                due.is(text + ": PENDING", x.pending(LINE), gap < setup ? 2 : 1);
                if (gap < setup) {
                    due.is(text + ": code", x.ofHazard(0, 0), 3);
                    due.is(text + ": WIRE", x.ofHazard(0, 1), 3);
                    due.is(text + ": TIME", x.ofHazard(0, 2), 30 + gap);
                }
            }
        }
    }

    @Says("DATA: if there was a RISE at a TIME above now - HOLD, HAZARD 4 is noted, and 2 is PENDING, as below.")
    static void dataThatChangesWithinHold(Due due) {
        for (int hold = 0; hold <= 20; hold++) {
            for (int gap = 0; gap <= 21; gap++) {
                FoundryNine x = Circuits.register(0, hold, 1);
                x.set(CLOCK, 1);
                x.pass(gap);
                x.set(DATA, 1);
                String text = "HOLD " + hold + ", " + gap + " behind";
                due.is(text + ": HAZARDS", x.hazards(), gap < hold ? 1 : 0);
                due.is(text + ": PENDING", x.pending(LINE), gap < hold ? 2 : gap < 1 ? 0 : -1);
                if (gap < hold) {
                    due.is(text + ": code", x.ofHazard(0, 0), 4);
                    due.is(text + ": WIRE", x.ofHazard(0, 1), 3);
                    due.is(text + ": TIME", x.ofHazard(0, 2), 30 + gap);
                    due.is(text + ": as below", x.told(2), 30 + gap + 1);
                }
            }
        }
    }

    @Says("HAZARD 4 is noted, and 2 is PENDING, as below.")
    static void dataThatChangesWithinHoldWhileResetIs1(Due due) {
        FoundryNine x = Circuits.register(0, 9, 5);
        x.set(CLOCK, 1);
        x.set(RESET, 1);
        due.is("reset", x.pending(LINE), 0);
        x.set(DATA, 1);
        due.is("the words look at no RESET here", x.hazards(), 1);
        due.is("2 is PENDING", x.pending(LINE), 2);
    }

    @Says("(if several are one WIRE, each of these, RESET first, then CLOCK, then DATA):")
    static void clockFirstThenDataOfOneWire(Due due) {
        int[][] cases = {{0, 0, 0, 1}, {1, 0, 1, 2}, {0, 1, 1, 2}, {1, 1, 2, 2}};
        for (int[] c : cases) {
            FoundryNine x = new FoundryNine();
            x.input(0);
            x.register(1, 0, 0, -1, 1);
            x.setWindow(1, c[0], c[1]);
            x.start();
            x.pass(40);
            x.set(0, 1);
            String text = "SETUP " + c[0] + ", HOLD " + c[1];
            due.is(text + ": HAZARDS", x.hazards(), c[2]);
            due.is(text + ": PENDING", x.pending(1), c[3]);
            if (c[2] == 2) {
                due.is("first CLOCK", x.ofHazard(0, 0), 3);
                due.is("then DATA", x.ofHazard(1, 0), 4);
            }
            x.pass(20);
            x.set(0, 0);
            due.is(text + ": it falls", x.hazards(), c[2]);
        }
    }

    @Says("(if several are one WIRE, each of these, RESET first, then CLOCK, then DATA):")
    static void resetFirstThenDataOfOneWire(Due due) {
        FoundryNine x = new FoundryNine();
        x.input(0);
        x.input(1);
        x.register(2, 0, 1, 0, 4);
        x.setWindow(2, 0, 20);
        x.start();
        x.pass(50);
        x.set(0, 1);
        due.is("RESET alone", x.pending(2), 0);
        x.set(0, 0);
        x.set(1, 1);
        x.pass(19);
        x.set(0, 1);
        due.is("RESET first, then DATA", x.pending(2), 2);
        due.is("HAZARD 4", x.lines() == 3 && x.hazards() == 1 ? x.ofHazard(0, 0) : 0, 4);
    }

    @Says("(if several are one WIRE, each of these, RESET first, then CLOCK, then DATA):")
    static void clockAndResetOfOneWire(Due due) {
        FoundryNine x = new FoundryNine();
        x.input(0);
        x.input(1);
        x.register(2, 1, 0, 0, 1);
        x.setWindow(2, 20, 20);
        x.start();
        x.set(1, 1);
        x.set(0, 1);
        due.is("RESET, and no RISE", x.pending(2), 0);
        x.set(1, 0);
        due.is("no RISE for SETUP or HOLD", x.hazards(), 0);
        FoundryNine all = new FoundryNine();
        all.input(0);
        all.register(1, 0, 0, 0, 1);
        all.setWindow(1, 20, 20);
        all.start();
        all.set(0, 1);
        due.is("all of one WIRE", all.pending(1), 0);
        due.is("all of one WIRE: HAZARDS", all.hazards(), 0);
    }

    @Says("PENDING of a REGISTER: what it has PENDING is given up (not SWALLOWED);")
    static void whatItHasPendingIsGivenUp(Due due) {
        FoundryNine x = Circuits.register(0, 0, 5);
        x.set(DATA, 1);
        x.set(CLOCK, 1);
        due.is("1 is PENDING", x.pending(LINE), 1);
        x.pass(1);
        x.set(RESET, 1);
        due.is("0 is PENDING", x.pending(LINE), 0);
        due.is("one is PENDING", x.told(1), 1);
        due.is("not SWALLOWED", x.told(3), 0);
        due.is("one comes", x.settle(), 1);
        due.is("0 came", x.ofWire(LINE, 0), 0);
        due.is("at its TIME", x.told(0), 36);
    }

    @Says("v is PENDING for the TIME now + its DELAY,")
    static void theSameAnewIsForALaterTime(Due due) {
        FoundryNine x = Circuits.register(0, 0, 5);
        x.set(DATA, 1);
        x.set(CLOCK, 1);
        due.is("its TIME", x.told(2), 35);
        x.pass(3);
        x.set(CLOCK, 0);
        x.set(CLOCK, 1);
        due.is("its TIME, anew", x.told(2), 38);
        due.is("nothing comes at 35", x.pass(4), 0);
        due.is("it comes at 38", x.pass(1), 1);
        FoundryNine y = Circuits.register(0, 0, 0);
        y.set(CLOCK, 1);
        due.is("DELAY 0", y.told(2), 30);
        due.is("DELAY 0 comes now", y.pass(0), 1);
        FoundryNine z = Circuits.register(0, 0, 20);
        z.set(CLOCK, 1);
        due.is("DELAY 20", z.told(2), 50);
    }

    @Says("also if the WIRE is so already.")
    static void alsoIfTheWireIsSoAlready(Due due) {
        FoundryNine x = Circuits.register(0, 0, 5);
        x.set(CLOCK, 1);
        x.settle();
        due.is("the WIRE", x.ofWire(LINE, 0), 0);
        x.set(CLOCK, 0);
        x.set(CLOCK, 1);
        due.is("0 of a WIRE that is 0, by a RISE", x.pending(LINE), 0);
        due.is("its TIME", x.told(2), 40);
        due.is("it comes, and is no CHANGE", x.settle(), 0);
        due.is("the TIME of what came", x.told(0), 40);
        x.set(RESET, 1);
        due.is("0 of a WIRE that is 0, by RESET", x.pending(LINE), 0);
        FoundryNine y = Circuits.register(0, 9, 5);
        y.set(CLOCK, 1);
        y.set(DATA, 1);
        due.is("2 of a WIRE that is 2, by HOLD", y.pending(LINE), 2);
    }

    /** DATA is a GATE of DELAY 20: it changed ahead of START, and has not since. */
    @Says("(CHANGES and RISES ahead of START are forgotten;")
    static void changesAheadOfStartAreForgotten(Due due) {
        FoundryNine x = new FoundryNine();
        x.input(0);
        x.input(1);
        x.gate(0, 2, 0, 0, 0, 20);
        x.register(3, 2, 1, -1, 0);
        x.setWindow(3, 20, 0);
        x.start();
        x.pass(20);
        x.set(1, 1);
        due.is("DATA changed at 20", x.hazards(), 1);
        x.start();
        x.pass(19);
        x.set(1, 1);
        due.is("DATA changed ahead of START", x.hazards(), 0);
    }

    @Says("(CHANGES and RISES ahead of START are forgotten;")
    static void risesAheadOfStartAreForgotten(Due due) {
        FoundryNine x = new FoundryNine();
        x.input(0);
        x.input(1);
        x.register(2, 0, 1, -1, 0);
        x.setWindow(2, 0, 20);
        x.start();
        x.set(1, 1);
        x.set(0, 1);
        due.is("a RISE at 0", x.hazards(), 1);
        x.start();
        x.set(0, 1);
        due.is("a RISE at 0 ahead of START", x.hazards(), 0);
        x.set(1, 1);
        x.pass(30);
        x.set(1, 0);
        x.set(1, 1);
        x.start();
        x.pass(19);
        x.set(0, 1);
        due.is("a RISE at 30 ahead of START", x.hazards(), 0);
    }

    @Says("those of the INPUTS at 0 count;")
    static void changesOfTheInputsAt0Count(Due due) {
        int[][] cases = {{1, 0, 1}, {1, 1, 0}, {0, 0, 0}, {19, 18, 1}, {19, 19, 0}, {20, 19, 1}, {20, 20, 0}};
        for (int[] c : cases) {
            FoundryNine x = new FoundryNine();
            x.input(0);
            x.input(1);
            x.register(2, 0, 1, -1, 0);
            x.setWindow(2, c[0], 0);
            x.start();
            x.pass(c[1]);
            x.set(1, 1);
            due.is("SETUP " + c[0] + ", at " + c[1], x.hazards(), c[2]);
        }
    }

    @Says("a WIRE that did not change since changed at no TIME.")
    static void aWireThatDidNotChangeChangedAtNoTime(Due due) {
        for (int time = 0; time <= 20; time++) {
            FoundryNine x = new FoundryNine();
            x.input(0);
            x.register(1, 1, 0, -1, 3);
            x.setWindow(1, 20, 20);
            x.start();
            x.pass(time);
            x.set(0, 1);
            due.is("DATA that did not change, at " + time, x.hazards(), 0);
            due.is("DATA is 2, though", x.pending(1), 2);
        }
    }

    @Says("if there was a RISE at a TIME above now - HOLD,")
    static void aRegisterThatHadNoRise(Due due) {
        for (int time = 0; time <= 20; time++) {
            FoundryNine x = new FoundryNine();
            x.input(0);
            x.input(1);
            x.register(2, 0, 1, -1, 3);
            x.setWindow(2, 20, 20);
            x.start();
            x.pass(time);
            x.set(0, 1);
            due.is("DATA without a RISE, at " + time, x.hazards(), 0);
            due.is("nothing is PENDING", x.pending(2), -1);
        }
    }

    @Says("A RISE is that one which the REGISTER had latest.)")
    static void theLatestRiseCounts(Due due) {
        FoundryNine x = Circuits.register(0, 5, 2);
        x.set(CLOCK, 1);
        x.set(CLOCK, 0);
        x.pass(10);
        x.set(CLOCK, 1);
        x.pass(4);
        x.set(DATA, 1);
        due.is("4 behind the latest", x.hazards(), 1);
        x.pass(1);
        x.set(DATA, 0);
        due.is("5 behind the latest", x.hazards(), 1);
        x.set(RESET, 1);
        x.set(CLOCK, 0);
        x.set(CLOCK, 1);
        x.set(DATA, 1);
        due.is("what is no RISE does not count", x.hazards(), 1);
        x.setWindow(3, 0, 6);
        x.set(DATA, 0);
        due.is("the latest RISE is still that of 40", x.hazards(), 2);
    }

    @Says("A RISE is that one which the REGISTER had latest.)")
    static void eachRegisterHasARiseOfItsOwn(Due due) {
        FoundryNine x = new FoundryNine();
        for (int wire = 0; wire < 4; wire++) {
            x.input(wire);
        }
        x.register(4, 0, 1, -1, 3);
        x.register(5, 0, 2, -1, 3);
        x.setWindow(4, 0, 20);
        x.setWindow(5, 0, 20);
        x.start();
        x.set(2, 1);
        x.set(0, 1);
        due.is("one of the two", x.hazards(), 1);
        due.is("its WIRE", x.ofHazard(0, 1), 5);
    }
}
