/** 2 FLAWS: what ARRIVAL and WAY are. */
@Section("Terms")
final class Term2Arrivals {
    private static void isWay(Due due, String text, FoundryNine x, int... way) {
        for (int place = 0; place < way.length; place++) {
            due.is(text + ": way(" + place + ")", x.way(place), way[place]);
        }
        due.is(text + ": way(" + way.length + ")", x.way(way.length), -1);
    }

    @Says("The ARRIVAL of a WIRE: 0 of one that an INPUT drives, or that nobody does;")
    static void arrival0OfAnInputAndOfNobody(Due due) {
        FoundryNine x = new FoundryNine();
        due.is("nobody", x.arrival(3), 0);
        x.gate(1, 4, 3, 0, 0, 5);
        due.is("nobody, but it is used", x.arrival(3), 0);
        due.is("behind it", x.arrival(4), 5);
        x.input(3);
        due.is("an INPUT", x.arrival(3), 0);
        due.is("behind that", x.arrival(4), 5);
    }

    @Says("the DELAY of a REGISTER, always, of one that that drives;")
    static void arrivalOfARegisterIsItsDelayAlways(Due due) {
        FoundryNine x = new FoundryNine();
        x.input(0);
        x.gate(0, 1, 0, 0, 0, 9);
        x.gate(0, 2, 2, 0, 0, 9);
        x.register(3, 1, 1, 1, 0);
        x.register(4, 1, 1, 1, 20);
        x.register(5, 2, 2, 2, 3);
        x.register(6, 6, 6, 6, 4);
        x.register(7, 22, 22, 22, 5);
        due.is("DELAY 0", x.arrival(3), 0);
        due.is("DELAY 20", x.arrival(4), 20);
        due.is("behind a RING", x.arrival(5), 3);
        due.is("by its own WIRE", x.arrival(6), 4);
        due.is("by one that nobody drives", x.arrival(7), 5);
    }

    @Says("of one that a GATE drives its DELAY more than the greatest ARRIVAL of those by which it does so;")
    static void arrivalOfAGateIsItsDelayMoreThanTheGreatest(Due due) {
        int[][] orders = {{1, 2, 3}, {1, 3, 2}, {2, 1, 3}, {2, 3, 1}, {3, 1, 2}, {3, 2, 1}};
        for (int[] o : orders) {
            FoundryNine x = new FoundryNine();
            x.gate(7, 10, o[0], o[1], o[2], 4);
            x.gate(2, 11, o[0], o[1], o[2], 0);
            x.gate(1, 12, o[0], o[1], o[2], 20);
            for (int wire = 1; wire <= 3; wire++) {
                x.register(wire, 0, 0, -1, 5 * wire);
            }
            due.is("of three", x.arrival(10), 19);
            due.is("of two", x.arrival(11), 5 * Math.max(o[0], o[1]));
            due.is("of one", x.arrival(12), 20 + 5 * o[0]);
        }
    }

    /** Whichever of its WIRES has a smaller number, and whichever a greater one. */
    @Says("of one that a GATE drives its DELAY more than the greatest ARRIVAL of those by which it does so;")
    static void theGreatestOfWiresAheadAndBehind(Due due) {
        int[] wires = {1, 2, 22, 23};
        for (int turn = 0; turn < 2; turn++) {
            for (int i = 0; i < 64; i++) {
                int[] pins = {i / 16, i / 4 % 4, i % 4};
                FoundryNine x = new FoundryNine();
                int greatest = 0;
                for (int pin : pins) {
                    greatest = Math.max(greatest, turn == 0 ? 3 * pin : 9 - 3 * pin);
                }
                x.gate(7, 10, wires[pins[0]], wires[pins[1]], wires[pins[2]], 5);
                for (int k = 0; k < 4; k++) {
                    x.gate(1, wires[k], 0, 0, 0, turn == 0 ? 3 * k : 9 - 3 * k);
                }
                due.is("arrival", x.arrival(10), 5 + greatest);
            }
        }
    }

    @Says("of one that a GATE drives its DELAY more than the greatest ARRIVAL of those by which it does so;")
    static void theGreatestArrivalThatThereMayBe(Due due) {
        for (int order = 0; order < 2; order++) {
            FoundryNine x = new FoundryNine();
            for (int i = 0; i < 23; i++) {
                int wire = order == 0 ? i : 22 - i;
                x.gate(1, wire, wire + 1, 0, 0, 20);
            }
            due.is("23 GATES", x.longest(), 460);
            x.register(23, 0, 0, -1, 20);
            due.is("23 GATES behind a REGISTER", x.arrival(0), 480);
            due.is("longest()", x.longest(), 480);
            due.is("way(23)", x.way(23), 23);
            due.is("way(24)", x.way(24), -1);
        }
    }

    @Says("-1 of one that a GATE in a RING drives,")
    static void arrivalOfAGateInARing(Due due) {
        FoundryNine x = new FoundryNine();
        x.input(0);
        x.gate(2, 1, 0, 2, 0, 5);
        x.gate(1, 2, 1, 0, 0, 5);
        x.gate(0, 23, 23, 0, 0, 5);
        due.is("in a RING of two", x.arrival(1), -1);
        due.is("the other", x.arrival(2), -1);
        due.is("in a RING of one", x.arrival(23), -1);
        due.is("longest()", x.longest(), 0);
    }

    @Says("or one that has such a one, ARRIVAL -1, among those by which it is driven.")
    static void arrivalBehindARing(Due due) {
        FoundryNine x = new FoundryNine();
        x.register(0, 0, 0, -1, 20);
        x.gate(1, 1, 1, 0, 0, 5);
        x.gate(7, 2, 1, 0, 0, 5);
        x.gate(7, 3, 0, 1, 0, 5);
        x.gate(7, 4, 0, 0, 1, 5);
        x.gate(7, 5, 0, 0, 4, 5);
        x.gate(1, 6, 5, 0, 0, 5);
        x.gate(7, 7, 0, 0, 0, 5);
        x.gate(1, 8, 0, 1, 1, 5);
        for (int wire = 2; wire <= 6; wire++) {
            due.is("behind a RING: " + wire, x.arrival(wire), -1);
        }
        due.is("not behind it", x.arrival(7), 25);
        due.is("a pin that is not looked at", x.arrival(8), 25);
        x.register(9, 6, 6, 6, 2);
        due.is("a REGISTER behind it", x.arrival(9), 2);
    }

    @Says("(If several LINES drive it, the first one counts.)")
    static void theFirstLineThatDrivesItCounts(Due due) {
        int[] arrival = {0, 7, 3, -1};
        for (int first = 0; first < 4; first++) {
            for (int second = 0; second < 4; second++) {
                FoundryNine x = new FoundryNine();
                drive(x, first);
                drive(x, second);
                x.gate(1, 6, 5, 0, 0, 1);
                String text = "sort " + first + " ahead of " + second;
                due.is(text + ": arrival", x.arrival(5), arrival[first]);
                due.is(text + ": behind it", x.arrival(6), arrival[first] == -1 ? -1 : arrival[first] + 1);
                due.is(text + ": longest()", x.longest(), arrival[first] + 1);
            }
        }
    }

    private static void drive(FoundryNine x, int sort) {
        if (sort == 0) {
            x.input(5);
        } else if (sort == 1) {
            x.gate(1, 5, 0, 0, 0, 7);
        } else if (sort == 2) {
            x.register(5, 0, 0, -1, 3);
        } else {
            x.gate(2, 5, 0, 5, 0, 9);
        }
    }

    @Says("The WAY is, of the WIRES that a LINE drives, and whose ARRIVAL is not -1,")
    static void noWayWithoutAWireThatALineDrives(Due due) {
        FoundryNine x = new FoundryNine();
        isWay(due, "no LINE", x);
        x.gate(1, 5, 5, 0, 0, 3);
        isWay(due, "a RING alone", x);
        x.gate(1, 6, 5, 0, 0, 3);
        isWay(due, "behind a RING, too", x);
        x.gate(2, 7, 5, 0, 0, 20);
        isWay(due, "with one that nobody drives among its pins", x);
        x.input(23);
        isWay(due, "an INPUT, ARRIVAL 0", x, 23);
        x.input(22);
        isWay(due, "the smaller of two INPUTS", x, 22);
    }

    @Says("the one with the greatest ARRIVAL (of several the smallest),")
    static void theWayBeginsWithTheSmallestOfTheGreatest(Due due) {
        FoundryNine x = new FoundryNine();
        x.register(23, 0, 0, -1, 5);
        isWay(due, "one", x, 23);
        x.register(22, 0, 0, -1, 5);
        isWay(due, "the smaller, told later", x, 22);
        x.register(0, 0, 0, -1, 5);
        isWay(due, "WIRE 0", x, 0);
        x.register(1, 0, 0, -1, 6);
        isWay(due, "a greater ARRIVAL", x, 1);
        x.register(2, 0, 0, -1, 6);
        isWay(due, "the smaller, told earlier", x, 1);
    }

    @Says("then of those by which its GATE drives it the one with the greatest ARRIVAL (a ahead of b ahead of c),")
    static void aAheadOfBAheadOfC(Due due) {
        // The ARRIVALS of a, b and c, and which of them the WAY goes on with.
        int[][] cases = {{5, 5, 5, 0}, {5, 5, 6, 2}, {5, 6, 5, 1}, {6, 5, 5, 0}, {5, 6, 6, 1}, {6, 5, 6, 0},
            {6, 6, 5, 0}, {5, 6, 7, 2}, {5, 7, 6, 1}, {7, 5, 6, 0}, {0, 0, 0, 0}, {0, 0, 1, 2}, {0, 1, 1, 1}};
        for (int[] c : cases) {
            FoundryNine x = new FoundryNine();
            x.register(11, 0, 0, -1, c[0]);
            x.register(8, 0, 0, -1, c[1]);
            x.register(3, 0, 0, -1, c[2]);
            x.gate(7, 20, 11, 8, 3, 20);
            isWay(due, c[0] + ", " + c[1] + ", " + c[2], x, 20, new int[] {11, 8, 3}[c[3]]);
        }
        FoundryNine two = new FoundryNine();
        two.register(1, 0, 0, -1, 9);
        two.gate(2, 20, 5, 4, 1, 20);
        isWay(due, "c is not looked at", two, 20, 5);
    }

    @Says("and so on, up to and with one that no GATE drives")
    static void theWayEndsWithOneThatNoGateDrives(Due due) {
        for (int end = 0; end < 3; end++) {
            FoundryNine x = new FoundryNine();
            x.gate(1, 4, 7, 0, 0, 3);
            x.gate(1, 7, 1, 0, 0, 0);
            x.gate(1, 1, 9, 0, 0, 20);
            if (end == 0) {
                x.input(9);
            } else if (end == 1) {
                x.register(9, 4, 4, -1, 2);
            }
            isWay(due, "end " + end, x, 4, 7, 1, 9);
        }
    }

    @Says("(the first LINE counts here, too; a RING is one through all GATES).")
    static void theFirstLineCountsOnTheWay(Due due) {
        FoundryNine x = new FoundryNine();
        x.gate(1, 5, 2, 0, 0, 4);
        x.gate(1, 5, 3, 0, 0, 20);
        x.register(5, 3, 3, -1, 20);
        isWay(due, "a GATE first", x, 5, 2);
        FoundryNine y = new FoundryNine();
        y.register(5, 3, 3, -1, 4);
        y.gate(1, 5, 2, 0, 0, 20);
        isWay(due, "a REGISTER first", y, 5);
        FoundryNine z = new FoundryNine();
        z.input(5);
        z.gate(1, 5, 2, 0, 0, 20);
        z.gate(1, 6, 5, 0, 0, 1);
        isWay(due, "an INPUT first", z, 6, 5);
    }

    @Says("a RING is one through all GATES).")
    static void aRingThroughALaterLineTakesTheArrival(Due due) {
        FoundryNine x = new FoundryNine();
        x.input(1);
        x.gate(1, 2, 1, 0, 0, 4);
        due.is("ahead of the RING", x.arrival(2), 4);
        x.gate(1, 1, 2, 0, 0, 1);
        due.is("its GATE is in a RING", x.arrival(2), -1);
        due.is("the first LINE of this one is an INPUT", x.arrival(1), 0);
        isWay(due, "in a RING it has no ARRIVAL", x, 1);
    }
}
