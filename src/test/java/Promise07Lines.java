/** Promise 7. */
@Section("Promise 7: lines")
final class Promise07Lines {
    @Says("`int lines()`: Returns how many LINES there are.")
    static void from0To30(Due due) {
        FoundryNine x = new FoundryNine();
        due.is("none", x.lines(), 0);
        for (int line = 1; line <= 30; line++) {
            if (line % 3 == 0) {
                x.input(line % 24);
            } else if (line % 3 == 1) {
                x.gate(0, line % 24, 0, 0, 0, 0);
            } else {
                x.register(line % 24, 0, 0, -1, 0);
            }
            due.is("lines()", x.lines(), line);
        }
        due.isThrown(Due.STATE, "the 31st", () -> x.input(0));
        due.is("behind one that is refused", x.lines(), 30);
    }

    @Says("Returns how many LINES there are.")
    static void whatIsRefusedIsNone(Due due) {
        FoundryNine x = new FoundryNine();
        x.input(0);
        due.isThrown(Due.INDEX, "input", () -> x.input(24));
        due.isThrown(Due.ARGUMENT, "gate", () -> x.gate(8, 0, 0, 0, 0, 0));
        due.isThrown(Due.INDEX, "gate", () -> x.gate(7, 0, 0, 0, 24, 0));
        due.isThrown(Due.ARGUMENT, "register", () -> x.register(0, 0, 0, 0, 21));
        due.is("lines()", x.lines(), 1);
        x.start();
        x.settle();
        due.is("lines() as it runs", x.lines(), 1);
    }
}
