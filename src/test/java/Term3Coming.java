/** 3 RUNNING: how what is PENDING comes. */
@Section("Terms")
final class Term3Coming {
    /** A REGISTER whose DATA and CLOCK come of two GATES, told in one order or the other. */
    private static FoundryNine race(int dataDelay, int clockDelay, boolean dataIsToldFirst) {
        FoundryNine x = new FoundryNine();
        x.input(0);
        x.input(1);
        int first = dataIsToldFirst ? 0 : 1;
        x.gate(1, 2 + first, first, 0, 0, first == 0 ? dataDelay : clockDelay);
        x.gate(1, 3 - first, 1 - first, 0, 0, first == 0 ? clockDelay : dataDelay);
        x.register(4, 2, 3, -1, 0);
        x.start();
        x.settle();
        return x;
    }

    /** 15 WIRES, each of which changes 20 times in the next 20, the first time at 1; nothing else comes. */
    private static FoundryNine busy() {
        FoundryNine x = new FoundryNine();
        x.input(0);
        Circuits.buzzers(x, 0, 1, 1, 15);
        x.input(16);
        x.gate(1, 17, 16, 0, 0, 20);
        x.register(18, 16, 16, 16, 0);
        x.start();
        x.settle();
        return x;
    }

    @Says("What is PENDING comes one by one, the smallest TIME first,")
    static void theSmallestTimeFirst(Due due) {
        for (int told = 0; told < 2; told++) {
            for (int set = 0; set < 2; set++) {
                FoundryNine x = race(4, 5, told == 0);
                x.set(set, 1);
                x.set(1 - set, 1);
                x.settle();
                due.is("DATA at 4, CLOCK at 5", x.ofWire(4, 0), 1);
                FoundryNine y = race(5, 4, told == 0);
                y.set(set, 1);
                y.set(1 - set, 1);
                y.settle();
                due.is("DATA at 5, CLOCK at 4", y.ofWire(4, 0), 0);
            }
        }
    }

    @Says("of several the one that was made so first;")
    static void ofSeveralTheOneThatWasMadeSoFirst(Due due) {
        for (int told = 0; told < 2; told++) {
            FoundryNine x = race(5, 4, told == 0);
            x.set(0, 1);
            x.pass(1);
            x.set(1, 1);
            x.settle();
            due.is("DATA was made so 1 ahead", x.ofWire(4, 0), 1);
            FoundryNine y = race(4, 5, told == 0);
            y.set(1, 1);
            y.pass(1);
            y.set(0, 1);
            y.settle();
            due.is("CLOCK was made so 1 ahead", y.ofWire(4, 0), 0);
            FoundryNine z = race(5, 5, told == 0);
            z.set(0, 1);
            z.set(1, 1);
            z.settle();
            due.is("DATA was made so first at one TIME", z.ofWire(4, 0), 1);
            FoundryNine w = race(5, 5, told == 0);
            w.set(1, 1);
            w.set(0, 1);
            w.settle();
            due.is("CLOCK was made so first at one TIME", w.ofWire(4, 0), 0);
        }
    }

    /** Only what is PENDING now counts: what was SWALLOWED or given up was made so ahead, but that is gone. */
    @Says("of several the one that was made so first;")
    static void whatIsMadeSoAnewIsBehindTheOthers(Due due) {
        for (int told = 0; told < 2; told++) {
            FoundryNine x = race(5, 5, told == 0);
            x.set(1, 1);
            x.set(0, 1);
            x.set(1, 0);
            x.set(1, 1);
            x.settle();
            due.is("a GATE, SWALLOWED between", x.ofWire(4, 0), 1);
        }
        FoundryNine y = new FoundryNine();
        y.input(0);
        y.input(1);
        y.input(2);
        y.register(3, 1, 0, -1, 4);
        y.gate(1, 4, 2, 0, 0, 4);
        y.register(5, 4, 3, -1, 0);
        y.start();
        y.settle();
        y.set(0, 1);
        y.settle();
        y.set(0, 0);
        y.set(1, 1);
        y.set(0, 1);
        y.set(2, 1);
        due.is("as it is, the REGISTER is first", y.wouldBe(1, 1, 5), 0);
        y.set(0, 0);
        y.set(0, 1);
        y.settle();
        due.is("a REGISTER, the same anew", y.ofWire(5, 0), 1);
    }

    @Says("as it comes it is PENDING no more,")
    static void asItComesItIsPendingNoMore(Due due) {
        FoundryNine x = new FoundryNine();
        x.input(0);
        Circuits.buzzers(x, 0, 1, 3, 1);
        x.start();
        x.settle();
        x.set(0, 1);
        for (int i = 0; i < 10; i++) {
            due.is("PENDING", x.pending(1), i % 2);
            due.is("it comes", x.pass(3), 1);
            due.is("its VALUE", x.ofWire(1, 0), i % 2);
        }
        due.is("it did not swallow itself", x.told(3), 0);
        x.set(0, 0);
        x.settle();
        due.is("PENDING, behind all", x.pending(1), -1);
    }

    @Says("and is a CHANGE, if the WIRE has another VALUE.")
    static void itIsAChangeIfTheWireHasAnotherValue(Due due) {
        FoundryNine x = new FoundryNine();
        x.input(0);
        x.input(1);
        x.input(4);
        x.register(2, 0, 1, -1, 3);
        x.register(3, 2, 4, -1, 1);
        x.setWindow(4, 0, 20);
        x.start();
        x.set(1, 1);
        due.is("from 2 to 0", x.pass(3), 1);
        x.set(4, 1);
        due.is("who uses it RISES", x.pass(1), 1);
        int changes = x.told(5);
        x.set(1, 0);
        x.set(1, 1);
        due.is("0 is PENDING", x.pending(3), 0);
        due.is("from 0 to 0", x.pass(3), 0);
        due.is("CHANGES, those of the CLOCK alone", x.told(5), changes + 2);
        due.is("it changed last at", x.ofWire(2, 1), 3);
        due.is("it changed since it began to be COUNTED", x.ofWire(2, 2), 0);
        due.is("who uses it is not ASKED", x.hazards(), 0);
        due.is("it is PENDING no more", x.pending(3), -1);
    }

    @Says("To PASS to a TIME is to let all come that is PENDING up to it, that TIME itself, too.")
    static void upToThatTimeItselfToo(Due due) {
        FoundryNine x = new FoundryNine();
        x.input(0);
        x.gate(0, 1, 0, 0, 0, 7);
        x.start();
        due.is("ahead of it", x.pass(6), 0);
        due.is("still PENDING", x.pending(1), 1);
        due.is("at it", x.pass(1), 1);
        x.start();
        due.is("at it, at once", x.pass(7), 1);
        x.start();
        due.is("past it", x.pass(8), 1);
        due.is("it came at its TIME", x.ofWire(1, 1), 7);
    }

    @Says("To PASS to a TIME is to let all come that is PENDING up to it, that TIME itself, too.")
    static void whatComesOfItAtThatTimeComesToo(Due due) {
        FoundryNine x = new FoundryNine();
        x.input(0);
        Circuits.chain(x, 0, 1, 7);
        Circuits.chain(x, 1, 22, 0);
        Circuits.chain(x, 22, 23, 1);
        x.start();
        due.is("ahead of it", x.pass(6), 0);
        due.is("with all of DELAY 0", x.pass(1), 22);
        due.is("the last at that TIME", x.ofWire(22, 1), 7);
        due.is("the one behind", x.ofWire(23, 1), -1);
        due.is("that comes 1 later", x.pass(1), 1);
    }

    @Says("If more than 300 would come in one call,")
    static void threeHundredMayComeAsItPasses(Due due) {
        FoundryNine x = busy();
        x.set(0, 1);
        due.is("300 come", x.pass(20), 300);
        due.is("RESTLESS", x.told(4), 0);
        due.is("what is for later is PENDING", x.told(1), 15);
        due.is("its TIME", x.told(2), x.told(0) + 1);
    }

    @Says("the 301st does not come any more:")
    static void the301stDoesNotComeAsItPasses(Due due) {
        FoundryNine x = busy();
        x.set(16, 1);
        x.settle();
        x.set(16, 0);
        x.set(0, 1);
        due.is("300 come of 301", x.pass(20), 300);
        due.is("RESTLESS", x.told(4), 1);
        due.is("the last of the 15 did not come", x.ofWire(15, 0), 0);
        due.is("the one ahead did", x.ofWire(14, 0), 1);
        due.is("nothing is PENDING", x.told(1), 0);
    }

    @Says("If more than 300 would come in one call,")
    static void threeHundredMayComeAsItSettles(Due due) {
        FoundryNine x = Circuits.busyForAWhile(1);
        due.is("300 come", x.settle(), 300);
        due.is("RESTLESS", x.told(4), 0);
        due.is("nothing is PENDING", x.told(1), 0);
        due.is("the last came", x.ofWire(15, 0), 1);
        due.is("299 come", Circuits.busyForAWhile(0).settle(), 299);
    }

    @Says("the 301st does not come any more:")
    static void the301stDoesNotComeAsItSettles(Due due) {
        FoundryNine x = Circuits.busyForAWhile(2);
        due.is("300 come of 301", x.settle(), 300);
        due.is("RESTLESS", x.told(4), 1);
        due.is("nothing is PENDING", x.told(1), 0);
        due.is("the last did not come", x.ofWire(15, 0), 0);
    }

    @Says("CHANGES or not,")
    static void whatComesAndIsNoChangeCountsToo(Due due) {
        FoundryNine x = busy();
        x.set(16, 1);
        x.settle();
        x.set(16, 0);
        x.settle();
        x.set(16, 1);
        x.set(16, 0);
        due.is("the REGISTER is 0, and 0 is PENDING", 3 * x.ofWire(18, 0) + x.pending(18), 0);
        x.set(0, 1);
        due.is("one that is no CHANGE, and 299", x.pass(20), 299);
        due.is("RESTLESS", x.told(4), 1);
    }

    @Says("in one call,")
    static void inTwoCallsMoreMayCome(Due due) {
        FoundryNine x = busy();
        x.set(0, 1);
        for (int i = 1; i <= 5; i++) {
            due.is("300 come", x.pass(20), 300);
            due.is("RESTLESS", x.told(4), 0);
        }
        due.is("one more", x.pass(1), 15);
        due.is("but not in one call", x.pass(21), 300);
        due.is("RESTLESS", x.told(4), 1);
    }

    @Says("it is RESTLESS once more,")
    static void itIsRestlessOnceMore(Due due) {
        FoundryNine x = busy();
        for (int i = 1; i <= 5; i++) {
            x.set(0, 1);
            if (i % 2 == 0) {
                x.settle();
            } else {
                x.pass(100);
            }
            due.is("RESTLESS", x.told(4), i);
            x.set(0, 0);
            x.settle();
            due.is("RESTLESS, behind its rest", x.told(4), i);
        }
        x.start();
        due.is("RESTLESS, STARTED anew", x.told(4), 0);
    }

    @Says("and all that is PENDING then is given up.")
    static void allThatIsPendingIsGivenUp(Due due) {
        FoundryNine x = new FoundryNine();
        x.input(0);
        x.input(1);
        x.input(2);
        x.register(3, 0, 1, 2, 20);
        x.gate(1, 4, 0, 0, 0, 20);
        x.gate(5, 5, 2, 5, 0, 0);
        x.start();
        x.settle();
        x.set(0, 1);
        x.set(1, 1);
        x.set(2, 1);
        x.set(0, 0);
        x.set(0, 1);
        int swallowed = x.told(3);
        due.is("PENDING ahead", x.told(1), 3);
        due.is("pass(0)", x.pass(0), 300);
        due.is("PENDING", x.told(1), 0);
        for (int line = 0; line < 6; line++) {
            due.is("PENDING of " + line, x.pending(line), -1);
        }
        due.is("what comes next", x.told(2), -1);
        due.is("it is not SWALLOWED", x.told(3), swallowed);
        due.is("nothing comes", x.pass(100) + x.settle(), 0);
        due.is("the GATE is as it was", x.ofWire(4, 0), 0);
    }
}
