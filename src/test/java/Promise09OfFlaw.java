/** Promise 9. */
@Section("Promise 9: ofFlaw")
final class Promise09OfFlaw {
    /** Three FLAWS: WIRE 0 is driven twice, nobody drives WIRE 23, LINE 3 is a RING of WIRE 7. */
    private static void three(FoundryNine x) {
        x.input(0);
        x.input(0);
        x.gate(1, 5, 23, 0, 0, 0);
        x.gate(1, 7, 7, 0, 0, 0);
    }

    @Says({"- `flaw`: the number of a FLAW, from 0", "Returns that."})
    static void numbersFrom0(Due due) {
        FoundryNine x = new FoundryNine();
        three(x);
        due.is("the first", x.ofFlaw(0, 0), 1);
        due.is("the second", x.ofFlaw(1, 0), 2);
        due.is("the last", x.ofFlaw(2, 0), 3);
    }

    @Says("- `what`: 0 its code, 1 its WIRE, with 3 its LINE")
    static void itsWireOrItsLine(Due due) {
        FoundryNine x = new FoundryNine();
        three(x);
        due.is("the WIRE of 1", x.ofFlaw(0, 1), 0);
        due.is("the WIRE of 2", x.ofFlaw(1, 1), 23);
        due.is("the LINE of 3", x.ofFlaw(2, 1), 3);
        FoundryNine last = new FoundryNine();
        for (int line = 0; line < 29; line++) {
            last.input(line % 20);
        }
        last.gate(1, 23, 23, 0, 0, 0);
        due.is("FLAWS", last.flaws(), 10);
        due.is("LINE 29", last.ofFlaw(9, 1), 29);
    }

    @Says("Throws `IndexOutOfBoundsException` if there is no such FLAW")
    static void noSuchFlaw(Due due) {
        for (int flaw : Edges.outside(2)) {
            for (int what = -1; what <= 2; what++) {
                int its = what;
                due.isRefused(Due.INDEX, "FLAW " + flaw + ", what " + what, Promise09OfFlaw::three,
                        x -> x.ofFlaw(flaw, its));
            }
        }
        due.isRefused(Due.INDEX, "FLAW 0 of none", Circuits::none, x -> x.ofFlaw(0, 0));
        FoundryNine x = new FoundryNine();
        x.gate(0, 0, 1, 0, 0, 0);
        due.is("FLAW 0 of 1", x.ofFlaw(0, 1), 1);
        x.input(1);
        due.isThrown(Due.INDEX, "FLAW 0, as it is gone", () -> x.ofFlaw(0, 1));
    }

    @Says("Throws `IllegalArgumentException` if what is neither")
    static void whatIsNeither(Due due) {
        for (int what : Edges.outside(1)) {
            for (int flaw = 0; flaw <= 2; flaw++) {
                int its = flaw;
                due.isRefused(Due.ARGUMENT, "FLAW " + flaw + ", what " + what, Promise09OfFlaw::three,
                        x -> x.ofFlaw(its, what));
            }
        }
    }
}
