/** Promise 21. */
@Section("Promise 21: pending")
final class Promise21Pending {
    @Says({"- `line`: a LINE", "Returns what it has PENDING;"})
    static void whatItHasPending(Due due) {
        FoundryNine x = Circuits.register(0, 1, 5);
        x.set(1, 1);
        due.is("0 of a REGISTER", x.pending(3), 0);
        x.set(0, 1);
        due.is("2 of a REGISTER", x.pending(3), 2);
        x.pass(1);
        x.set(1, 0);
        x.set(1, 1);
        due.is("1 of a REGISTER", x.pending(3), 1);
        FoundryNine y = new FoundryNine();
        y.gate(0, 3, 5, 0, 0, 5);
        y.input(5);
        y.gate(1, 7, 5, 0, 0, 5);
        y.start();
        due.is("1 of a GATE, LINE 0", y.pending(0), 1);
        due.is("0 of a GATE, LINE 2", y.pending(2), 0);
    }

    @Says("-1 if it has nothing.")
    static void minus1IfItHasNothing(Due due) {
        FoundryNine x = new FoundryNine();
        x.input(0);
        x.gate(0, 1, 0, 0, 0, 5);
        due.is("ahead of START: an INPUT", x.pending(0), -1);
        due.is("ahead of START: a GATE", x.pending(1), -1);
        x.start();
        due.is("an INPUT", x.pending(0), -1);
        due.is("a GATE", x.pending(1), 1);
        x.settle();
        due.is("as it came", x.pending(1), -1);
        x.set(0, 1);
        x.set(0, 0);
        due.is("as it was SWALLOWED", x.pending(1), -1);
    }

    @Says("Throws `IndexOutOfBoundsException` if there is no such LINE")
    static void noSuchLine(Due due) {
        for (int line : Edges.outside(7)) {
            due.isRefused(Due.INDEX, "LINE " + line + " of 8", Circuits::midway, x -> x.pending(line));
        }
        for (int line : Edges.outside(29)) {
            due.isRefused(Due.INDEX, "LINE " + line + " of 30", Circuits::thirty, x -> x.pending(line));
        }
        due.isRefused(Due.INDEX, "LINE 0 of none", Circuits::none, x -> x.pending(0));
        due.isRefused(Due.INDEX, "LINE 29 of 29", Circuits::twentyNine, x -> x.pending(29));
        FoundryNine x = new FoundryNine();
        Circuits.thirty(x);
        due.is("LINE 0 of 30", x.pending(0), -1);
        due.is("LINE 29 of 30", x.pending(29), -1);
    }
}
