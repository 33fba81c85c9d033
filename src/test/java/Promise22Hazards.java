/** Promise 22. */
@Section("Promise 22: hazards")
final class Promise22Hazards {
    @Says("`int hazards()`: Returns how many HAZARDS are noted")
    static void from0To40(Due due) {
        FoundryNine x = new FoundryNine();
        due.is("new", x.hazards(), 0);
        x = Circuits.register(0, 20, 0);
        due.is("none", x.hazards(), 0);
        x.set(1, 1);
        for (int i = 1; i <= 50; i++) {
            x.set(0, i % 2);
            due.is("HAZARDS of " + i, x.hazards(), i <= 40 ? i : 40);
        }
    }

    @Says("(as they were left, if it does not run; so pending(), and of each HAZARD).")
    static void asTheyWereLeftIfItDoesNotRun(Due due) {
        FoundryNine x = Circuits.register(0, 20, 7);
        x.set(1, 1);
        x.pass(3);
        x.set(0, 1);
        x.pass(1);
        x.gate(0, 9, 10, 0, 0, 0);
        due.is("it does not run", x.isRunning(), false);
        due.isThrown(Due.STATE, "a START that is refused", () -> x.start());
        due.is("hazards()", x.hazards(), 1);
        due.is("its code", x.ofHazard(0, 0), 4);
        due.is("its WIRE", x.ofHazard(0, 1), 3);
        due.is("its TIME", x.ofHazard(0, 2), 33);
        due.is("pending()", x.pending(3), 2);
        due.is("pending() of the new one", x.pending(4), -1);
        x.input(10);
        x.start();
        due.is("hazards() of a new START", x.hazards(), 0);
        due.is("pending() of a new START", x.pending(3), -1);
    }
}
