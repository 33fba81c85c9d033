/** 2 FLAWS: which there are. */
@Section("Terms")
final class Term2Flaws {
    private static void areFlaws(Due due, String text, FoundryNine x, int[]... flaws) {
        due.is(text + ": flaws()", x.flaws(), flaws.length);
        for (int i = 0; i < flaws.length && i < x.flaws(); i++) {
            due.is(text + ": ofFlaw(" + i + ", 0)", x.ofFlaw(i, 0), flaws[i][0]);
            due.is(text + ": ofFlaw(" + i + ", 1)", x.ofFlaw(i, 1), flaws[i][1]);
        }
    }

    private static int[] flaw(int code, int place) {
        return new int[] {code, place};
    }

    @Says("FLAWS are noted: for each WIRE, by numbers, 1, if two LINES or more drive it;")
    static void twoLinesOrMoreDriveIt(Due due) {
        FoundryNine x = new FoundryNine();
        areFlaws(due, "no LINE", x);
        x.input(7);
        areFlaws(due, "one LINE", x);
        x.input(7);
        areFlaws(due, "two LINES", x, flaw(1, 7));
        x.input(7);
        areFlaws(due, "three LINES are one FLAW", x, flaw(1, 7));
        while (x.lines() < 30) {
            x.input(7);
        }
        areFlaws(due, "30 LINES are one FLAW", x, flaw(1, 7));
    }

    @Says("for each WIRE, by numbers, 1, if two LINES or more drive it;")
    static void linesOfAnySortDriveIt(Due due) {
        for (int first = 0; first < 3; first++) {
            for (int second = 0; second < 3; second++) {
                FoundryNine x = new FoundryNine();
                x.input(0);
                drive(x, first);
                areFlaws(due, "sort " + first, x);
                drive(x, second);
                areFlaws(due, "sorts " + first + " and " + second, x, flaw(1, 5));
            }
        }
    }

    private static void drive(FoundryNine x, int sort) {
        if (sort == 0) {
            x.input(5);
        } else if (sort == 1) {
            x.gate(0, 5, 0, 0, 0, 0);
        } else {
            x.register(5, 0, 0, -1, 0);
        }
    }

    @Says("2, if none does, but a LINE uses it;")
    static void noneDrivesButALineUsesIt(Due due) {
        for (int wire : new int[] {0, 12, 23}) {
            FoundryNine[] users = new FoundryNine[6];
            for (int i = 0; i < users.length; i++) {
                users[i] = new FoundryNine();
                users[i].input(1);
            }
            users[0].gate(7, 2, wire, 1, 1, 0);
            users[1].gate(7, 2, 1, wire, 1, 0);
            users[2].gate(7, 2, 1, 1, wire, 0);
            users[3].register(2, wire, 1, -1, 0);
            users[4].register(2, 1, wire, -1, 0);
            users[5].register(2, 1, 1, wire, 0);
            for (int i = 0; i < users.length; i++) {
                areFlaws(due, "used as " + i, users[i], flaw(2, wire));
                users[i].gate(7, 3, wire, wire, wire, 0);
                areFlaws(due, "used again", users[i], flaw(2, wire));
                users[i].input(wire);
                areFlaws(due, "driven", users[i]);
            }
        }
    }

    @Says("2, if none does, but a LINE uses it;")
    static void noneDrivesAndNoLineUsesIt(Due due) {
        FoundryNine x = new FoundryNine();
        areFlaws(due, "no LINE", x);
        x.input(1);
        x.gate(0, 2, 1, 5, 6, 0);
        x.gate(2, 3, 1, 2, 7, 0);
        x.register(4, 1, 2, -1, 0);
        areFlaws(due, "what is not looked at is not used", x);
    }

    @Says("for each WIRE, by numbers,")
    static void byNumbersOfTheWires(Due due) {
        FoundryNine x = new FoundryNine();
        x.input(23);
        x.input(23);
        x.gate(7, 10, 22, 0, 3, 0);
        x.input(1);
        x.gate(0, 1, 2, 0, 0, 0);
        areFlaws(due, "1 and 2 as the WIRES come", x, flaw(2, 0), flaw(1, 1), flaw(2, 2), flaw(2, 3), flaw(2, 22),
                flaw(1, 23));
    }

    @Says("then for each GATE, by its LINE, 3, if it is in a RING:")
    static void gatesByTheirLinesBehindTheWires(Due due) {
        FoundryNine x = new FoundryNine();
        x.gate(1, 9, 9, 0, 0, 0);
        x.gate(1, 20, 3, 0, 0, 0);
        x.gate(1, 3, 20, 0, 0, 0);
        x.gate(1, 23, 22, 0, 0, 0);
        x.gate(1, 0, 0, 0, 0, 0);
        areFlaws(due, "3 by LINES, with the LINE", x, flaw(2, 22), flaw(3, 0), flaw(3, 1), flaw(3, 2), flaw(3, 4));
    }

    @Says("(that WIRE itself, too).")
    static void aRingOfOneGate(Due due) {
        for (int wire : new int[] {0, 11, 23}) {
            FoundryNine x = new FoundryNine();
            x.input(5);
            x.gate(7, wire, wire, 5, 5, 0);
            areFlaws(due, "by a", x, flaw(3, 1));
            FoundryNine y = new FoundryNine();
            y.input(5);
            y.gate(7, wire, 5, wire, 5, 0);
            areFlaws(due, "by b", y, flaw(3, 1));
            FoundryNine z = new FoundryNine();
            z.input(5);
            z.gate(7, wire, 5, 5, wire, 0);
            areFlaws(due, "by c", z, flaw(3, 1));
            FoundryNine w = new FoundryNine();
            w.input(5);
            w.gate(1, wire, 5, wire, wire, 0);
            areFlaws(due, "by a b that is not looked at", w);
            FoundryNine v = new FoundryNine();
            v.input(5);
            v.gate(2, wire, 5, 5, wire, 0);
            areFlaws(due, "by a c that is not looked at", v);
        }
    }

    @Says("one can come from the WIRE that it drives, through GATES alone, to one by which it is driven itself")
    static void aRingOfEachLength(Due due) {
        for (int length = 2; length <= 24; length++) {
            FoundryNine x = new FoundryNine();
            int[][] want = new int[length][];
            for (int i = 0; i < length; i++) {
                // The way round goes 7 on each time, so that it is no order of the WIRES.
                x.gate(1, i * 7 % 24, (i + 1) % length * 7 % 24, 0, 0, 0);
                want[i] = flaw(3, i);
                if (i < length - 1) {
                    due.is("not yet a ring", x.flaws(), 1);
                }
            }
            areFlaws(due, "a ring of " + length, x, want);
        }
    }

    /** The WIRES 0, 5 and 23, told in each order, each way round. */
    @Says("one can come from the WIRE that it drives, through GATES alone, to one by which it is driven itself")
    static void aRingToldInEachOrder(Due due) {
        int[][] orders = {{0, 5, 23}, {0, 23, 5}, {5, 0, 23}, {5, 23, 0}, {23, 0, 5}, {23, 5, 0}};
        for (int[] order : orders) {
            for (int[] round : orders) {
                FoundryNine x = new FoundryNine();
                for (int wire : order) {
                    int at = wire == round[0] ? 0 : wire == round[1] ? 1 : 2;
                    x.gate(1, wire, round[(at + 1) % 3], 0, 0, 0);
                }
                areFlaws(due, "three", x, flaw(3, 0), flaw(3, 1), flaw(3, 2));
            }
        }
    }

    @Says("through GATES alone,")
    static void throughARegisterItIsNoRing(Due due) {
        for (int pin = 0; pin < 3; pin++) {
            FoundryNine x = new FoundryNine();
            x.input(0);
            x.gate(1, 1, 2, 0, 0, 0);
            x.register(2, pin == 0 ? 1 : 0, pin == 1 ? 1 : 0, pin == 2 ? 1 : 0, 0);
            areFlaws(due, "through pin " + pin + " of a REGISTER", x);
            x.register(3, 3, 3, 3, 0);
            areFlaws(due, "a REGISTER of its own WIRE", x);
        }
    }

    @Says("3, if it is in a RING:")
    static void aheadOfARingAndBehindItIsNotInIt(Due due) {
        FoundryNine x = new FoundryNine();
        x.input(0);
        x.gate(1, 1, 0, 0, 0, 0);
        x.gate(2, 2, 1, 3, 0, 0);
        x.gate(1, 3, 2, 0, 0, 0);
        x.gate(1, 4, 3, 0, 0, 0);
        x.gate(2, 5, 4, 5, 0, 0);
        areFlaws(due, "between two rings", x, flaw(3, 2), flaw(3, 3), flaw(3, 5));
    }

    @Says("(the first LINE counts here, too; a RING is one through all GATES).")
    static void aRingIsOneThroughAllGates(Due due) {
        FoundryNine x = new FoundryNine();
        x.input(0);
        x.input(1);
        x.gate(0, 2, 1, 0, 0, 4);
        x.gate(0, 1, 2, 0, 0, 1);
        areFlaws(due, "through a GATE that is not the first to drive", x, flaw(1, 1), flaw(3, 2), flaw(3, 3));
        FoundryNine y = new FoundryNine();
        y.input(0);
        y.gate(0, 1, 0, 0, 0, 6);
        y.gate(0, 1, 1, 0, 0, 1);
        areFlaws(due, "the second alone is in it", y, flaw(1, 1), flaw(3, 2));
    }

    @Says("FLAWS are noted:")
    static void asManyFlawsAsThereMayBe(Due due) {
        FoundryNine x = new FoundryNine();
        int[][] want = new int[54][];
        for (int line = 0; line < 30; line++) {
            x.gate(7, line % 15, line % 15, 15 + line % 9, 15, 0);
            want[24 + line] = flaw(3, line);
        }
        for (int wire = 0; wire < 24; wire++) {
            want[wire] = flaw(wire < 15 ? 1 : 2, wire);
        }
        areFlaws(due, "each WIRE and each LINE", x, want);
        due.isThrown(Due.INDEX, "there is no FLAW 54", () -> x.ofFlaw(54, 0));
    }

    @Says("A circuit with FLAWS of 1 or 2 does not run.")
    static void withFlawsOf1Or2ItDoesNotRun(Due due) {
        due.isRefused(Due.STATE, "start() with a FLAW of 1", x -> {
            x.input(0);
            x.input(0);
        }, x -> x.start());
        due.isRefused(Due.STATE, "start() with a FLAW of 2", x -> x.gate(0, 1, 0, 0, 0, 0), x -> x.start());
        due.isRefused(Due.STATE, "start() with a FLAW of 2 and a RING", x -> {
            x.gate(2, 1, 0, 1, 0, 0);
        }, x -> x.start());
        FoundryNine mended = new FoundryNine();
        mended.gate(0, 1, 0, 0, 0, 0);
        mended.input(0);
        due.is("start(), as the FLAW is gone", mended.start(), 1);
    }

    @Says("A circuit with FLAWS of 1 or 2 does not run.")
    static void withFlawsOf3AloneItRuns(Due due) {
        FoundryNine x = new FoundryNine();
        x.gate(1, 0, 0, 0, 0, 0);
        due.is("flaws()", x.flaws(), 1);
        due.is("start()", x.start(), 0);
        due.is("isRunning()", x.isRunning(), true);
        FoundryNine ring = new FoundryNine();
        for (int wire = 0; wire < 24; wire++) {
            ring.gate(0, wire, (wire + 1) % 24, 0, 0, 0);
        }
        due.is("flaws() of 24", ring.flaws(), 24);
        ring.start();
        due.is("isRunning() with 24", ring.isRunning(), true);
    }
}
