/** 3 RUNNING: a CHANGE, and a GATE that is ASKED. */
@Section("Terms")
final class Term3Gates {
    /** OR of the INPUTS 0 and 1, that is 0. */
    private static FoundryNine or(int delay) {
        FoundryNine x = new FoundryNine();
        x.input(0);
        x.input(1);
        x.gate(3, 2, 0, 1, 0, delay);
        x.start();
        x.settle();
        x.pass(7);
        return x;
    }

    @Says("A CHANGE of a WIRE: it has another VALUE from now on;")
    static void itHasAnotherValueFromNowOn(Due due) {
        FoundryNine x = or(5);
        int time = x.told(0);
        x.set(0, 1);
        due.is("its VALUE", x.ofWire(0, 0), 1);
        due.is("its TIME", x.ofWire(0, 1), time);
        due.is("another WIRE", x.ofWire(1, 1), 0);
        x.pass(4);
        due.is("the GATE ahead of its TIME", x.ofWire(2, 0), 0);
        x.pass(1);
        due.is("the GATE at its TIME", x.ofWire(2, 0), 1);
        due.is("its TIME", x.ofWire(2, 1), time + 5);
    }

    /** Of two that are made PENDING by one CHANGE the LINE with the smaller number comes first. */
    @Says("then all LINES that use it, by numbers, are ASKED.")
    static void linesAreAskedByNumbers(Due due) {
        for (int smaller = 0; smaller < 2; smaller++) {
            FoundryNine x = new FoundryNine();
            x.gate(1, smaller == 0 ? 4 : 9, 0, 0, 0, 3);
            x.input(0);
            x.register(10, 4, 9, -1, 0);
            x.gate(1, smaller == 0 ? 9 : 4, 0, 0, 0, 3);
            x.start();
            x.settle();
            x.set(0, 1);
            x.settle();
            due.is("DATA ahead of CLOCK, as its LINE is smaller, or not", x.ofWire(10, 0), 1 - smaller);
        }
    }

    @Says("then all LINES that use it, by numbers, are ASKED.")
    static void allLinesThatUseItAreAsked(Due due) {
        FoundryNine x = new FoundryNine();
        for (int wire = 1; wire < 24; wire++) {
            x.gate(wire % 2, wire, 0, 0, 0, 20);
        }
        x.input(0);
        due.is("start()", x.start(), 23);
        x.settle();
        x.set(0, 1);
        due.is("PENDING", x.told(1), 23);
        due.is("of LINE 0", x.pending(0), 1);
        due.is("of LINE 22", x.pending(22), 1);
        due.is("settle()", x.settle(), 23);
    }

    @Says("then all LINES that use it, by numbers, are ASKED.")
    static void whoDoesNotUseItIsNotAsked(Due due) {
        FoundryNine x = or(5);
        x.gate(1, 3, 1, 0, 0, 4);
        x.gate(1, 4, 1, 0, 0, 4);
        x.start();
        x.settle();
        x.set(0, 1);
        due.is("PENDING", x.told(1), 1);
    }

    @Says("A LINE has one PENDING VALUE at most, with the TIME at which it comes.")
    static void onePendingValueAtMost(Due due) {
        FoundryNine x = Circuits.register(0, 0, 20);
        for (int i = 0; i < 6; i++) {
            x.set(0, 1 - i % 2);
            x.set(1, 1);
            x.set(1, 0);
            due.is("PENDING", x.told(1), 1);
            due.is("the latest", x.pending(3), 1 - i % 2);
            due.is("its TIME", x.told(2), 30 + i + 20);
            x.pass(1);
        }
        due.is("one comes", x.settle(), 1);
        due.is("the latest", x.ofWire(3, 0), 0);
        due.is("at its TIME", x.ofWire(3, 1), 55);
    }

    @Says("A GATE that is ASKED: v is what it is by the VALUES now.")
    static void vIsByTheValuesNow(Due due) {
        FoundryNine x = or(5);
        x.gate(1, 3, 2, 0, 0, 0);
        x.start();
        x.settle();
        x.set(0, 1);
        due.is("by the VALUES now", x.pending(2), 1);
        due.is("not by what is PENDING", x.pending(3), -1);
    }

    @Says("If it has one PENDING, and that is not v, that is SWALLOWED: it is PENDING no more.")
    static void whatIsNotVIsSwallowed(Due due) {
        FoundryNine x = or(5);
        x.set(0, 1);
        due.is("PENDING", x.pending(2), 1);
        due.is("SWALLOWED ahead", x.told(3), 0);
        x.pass(4);
        x.set(0, 0);
        due.is("PENDING no more", x.pending(2), -1);
        due.is("SWALLOWED", x.told(3), 1);
        due.is("nothing comes", x.settle(), 0);
        due.is("its VALUE", x.ofWire(2, 0), 0);
        FoundryNine y = or(5);
        y.set(0, 1);
        y.pass(5);
        y.set(0, 0);
        due.is("it came, and is not SWALLOWED", y.told(3), 0);
        due.is("the next is PENDING", y.pending(2), 0);
    }

    @Says("If it has one PENDING, and that is not v,")
    static void whatIsVIsNotSwallowedAndKeepsItsTime(Due due) {
        FoundryNine x = or(5);
        x.set(0, 1);
        int time = x.told(2);
        x.pass(2);
        x.set(1, 1);
        due.is("PENDING", x.pending(2), 1);
        due.is("not SWALLOWED", x.told(3), 0);
        due.is("its TIME", x.told(2), time);
        x.set(0, 0);
        due.is("still not SWALLOWED", x.told(3), 0);
        due.is("its TIME, still", x.told(2), time);
    }

    /** CHOOSE of 0, between the REGISTER 3, that is 2, and 1: it is 0, then 1 is PENDING, then 2. */
    @Says("If it has none PENDING then, and v is not the VALUE of its WIRE,")
    static void anotherIsPendingBehindWhatWasSwallowed(Due due) {
        FoundryNine x = new FoundryNine();
        x.input(0);
        x.input(1);
        x.gate(7, 2, 0, 3, 1, 5);
        x.register(3, 0, 0, 0, 0);
        x.start();
        x.settle();
        x.set(1, 1);
        int time = x.told(0);
        due.is("1 is PENDING", x.pending(2), 1);
        x.pass(2);
        // The REGISTER is reset as 0 becomes 1, but for this moment it is 2.
        x.set(0, 1);
        due.is("SWALLOWED", x.told(3), 1);
        due.is("2 is PENDING", x.pending(2), 2);
        x.pass(0);
        due.is("the REGISTER is 0, as is the GATE", x.pending(2), -1);
        due.is("SWALLOWED, too", x.told(3), 2);
        x.set(0, 0);
        due.is("1 is PENDING anew", x.pending(2), 1);
        due.is("for the TIME now + its DELAY", x.told(2), time + 2 + 5);
    }

    @Says("v is not the VALUE of its WIRE,")
    static void theValueOfItsWireIsNotPending(Due due) {
        FoundryNine x = or(5);
        x.set(0, 1);
        x.settle();
        x.set(1, 1);
        due.is("1 of a WIRE that is 1", x.pending(2), -1);
        x.set(0, 0);
        due.is("1 of a WIRE that is 1, still", x.pending(2), -1);
        due.is("nothing comes", x.settle(), 0);
        FoundryNine y = new FoundryNine();
        y.input(0);
        y.register(1, 0, 0, -1, 0);
        y.gate(2, 2, 0, 1, 0, 3);
        y.start();
        y.settle();
        y.set(0, 1);
        due.is("2 of a WIRE that is 0", y.pending(2), 2);
        y.start();
        y.set(0, 1);
        due.is("2 of a WIRE that is 2", y.pending(2), -1);
    }

    @Says("v is PENDING, for the TIME now + its DELAY.")
    static void delays0And20(Due due) {
        FoundryNine x = or(0);
        x.set(0, 1);
        due.is("DELAY 0: not yet", x.ofWire(2, 0), 0);
        due.is("DELAY 0: PENDING for now", x.told(2), x.told(0));
        due.is("DELAY 0: it comes", x.pass(0), 1);
        FoundryNine y = or(20);
        int time = y.told(0);
        y.set(0, 1);
        due.is("DELAY 20: PENDING for", y.told(2), time + 20);
        due.is("DELAY 20: at 19", y.pass(19), 0);
        due.is("DELAY 20: at 20", y.pass(1), 1);
        due.is("DELAY 20: it changed at", y.ofWire(2, 1), time + 20);
    }
}
