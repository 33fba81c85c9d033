/** Promise 20. */
@Section("Promise 20: ofWire")
final class Promise20OfWire {
    /** WIRE 0 is an INPUT, WIRE 23 is not 0, 4 later. */
    private static FoundryNine two() {
        FoundryNine x = new FoundryNine();
        x.input(0);
        x.gate(0, 23, 0, 0, 0, 4);
        x.start();
        return x;
    }

    @Says({"- `wire`: a WIRE", "- `what`: 0 its VALUE,"})
    static void what0IsItsValue(Due due) {
        FoundryNine x = two();
        due.is("0", x.ofWire(0, 0), 0);
        due.is("2", x.ofWire(23, 0), 2);
        x.settle();
        due.is("1", x.ofWire(23, 0), 1);
        due.is("one that nobody drives", x.ofWire(12, 0), 2);
    }

    @Says("1 the TIME at which it changed last (-1 if it did not),")
    static void what1IsTheTimeAtWhichItChangedLast(Due due) {
        FoundryNine x = two();
        due.is("it changed at 0", x.ofWire(0, 1), 0);
        due.is("it did not", x.ofWire(23, 1), -1);
        x.pass(4);
        due.is("it changed at 4", x.ofWire(23, 1), 4);
        x.pass(4);
        due.is("it stays", x.ofWire(23, 1), 4);
        x.set(0, 1);
        x.settle();
        due.is("the last, 8", x.ofWire(0, 1), 8);
        due.is("the last, 12", x.ofWire(23, 1), 12);
        due.is("one that nobody drives", x.ofWire(12, 1), -1);
        x.start();
        due.is("STARTED anew, it did not", x.ofWire(23, 1), -1);
    }

    @Says("2 how often it changed since it began to be COUNTED,")
    static void what2IsHowOftenItChangedSince(Due due) {
        FoundryNine x = new FoundryNine();
        x.input(0);
        Circuits.buzzers(x, 0, 23, 1, 1);
        x.start();
        due.is("at START", x.ofWire(0, 2), 1);
        x.settle();
        due.is("behind settle()", x.ofWire(0, 2), 0);
        x.set(0, 1);
        for (int times = 0; times < 300; times += 100) {
            due.is("times", x.ofWire(23, 2), times);
            x.pass(100);
        }
        due.is("300 times", x.ofWire(23, 2), 300);
        x.pass(100);
        due.is("400 times", x.ofWire(23, 2), 400);
        x.set(0, 1);
        due.is("none since", x.ofWire(23, 2), 0);
    }

    @Says("3 what it was then")
    static void what3IsWhatItWasThen(Due due) {
        FoundryNine x = two();
        due.is("2 at START", x.ofWire(0, 3), 2);
        x.pass(10);
        due.is("2 still", x.ofWire(23, 3), 2);
        x.set(0, 1);
        due.is("0 as it was set", x.ofWire(0, 3), 0);
        due.is("1 as it was set", x.ofWire(23, 3), 1);
        x.pass(10);
        due.is("1 still", x.ofWire(23, 3), 1);
        x.settle();
        due.is("0 behind settle()", x.ofWire(23, 3), 0);
        due.is("1 behind settle()", x.ofWire(0, 3), 1);
    }

    @Says("Returns that, as it was left, if it does not run")
    static void asItWasLeftIfItDoesNotRun(Due due) {
        FoundryNine x = two();
        x.pass(10);
        x.set(0, 1);
        x.pass(10);
        x.gate(0, 5, 23, 0, 0, 4);
        int[][] want = {{1, 10, 1, 0}, {0, 14, 1, 1}, {2, -1, 0, 2}};
        int[] wires = {0, 23, 5};
        for (int i = 0; i < 3; i++) {
            for (int what = 0; what <= 3; what++) {
                due.is("ofWire(" + wires[i] + ", " + what + ")", x.ofWire(wires[i], what), want[i][what]);
            }
        }
    }

    @Says("(2, -1, 0 and 2 ahead of the first START).")
    static void aheadOfTheFirstStart(Due due) {
        for (int lines = 0; lines < 2; lines++) {
            FoundryNine x = new FoundryNine();
            if (lines == 1) {
                Circuits.told(x);
            }
            int[] want = {2, -1, 0, 2};
            for (int wire = 0; wire < 24; wire++) {
                for (int what = 0; what <= 3; what++) {
                    due.is("ofWire(" + wire + ", " + what + ")", x.ofWire(wire, what), want[what]);
                }
            }
        }
    }

    @Says("Throws `IndexOutOfBoundsException` if there is no such WIRE")
    static void noSuchWire(Due due) {
        for (int wire : Edges.NO_WIRES) {
            for (int what = -1; what <= 4; what++) {
                int its = what;
                due.isRefused(Due.INDEX, "ofWire(" + wire + ", " + what + ")", Circuits::midway,
                        x -> x.ofWire(wire, its));
            }
        }
    }

    @Says("Throws `IllegalArgumentException` if what is not 0 to 3")
    static void whatIsNot0To3(Due due) {
        for (int what : Edges.outside(3)) {
            due.isRefused(Due.ARGUMENT, "ofWire(0, " + what + ")", Circuits::none, x -> x.ofWire(0, what));
            due.isRefused(Due.ARGUMENT, "ofWire(23, " + what + ")", Circuits::midway, x -> x.ofWire(23, what));
        }
    }
}
