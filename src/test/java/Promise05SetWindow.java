/** Promise 5. */
@Section("Promise 5: setWindow")
final class Promise05SetWindow {
    @Says("Sets SETUP and HOLD of a REGISTER, also while it runs.")
    static void alsoWhileItRuns(Due due) {
        FoundryNine x = Circuits.register(0, 0, 2);
        x.set(0, 1);
        x.pass(3);
        x.setWindow(3, 4, 0);
        due.is("it runs on", x.isRunning(), true);
        due.is("the TIME", x.told(0), 33);
        x.set(1, 1);
        due.is("SETUP from now on, for a CHANGE ahead of it", x.hazards(), 1);
        x.pass(3);
        x.setWindow(3, 0, 4);
        x.set(0, 0);
        due.is("HOLD from now on, for a RISE ahead of it", x.hazards(), 2);
        x.setWindow(3, 0, 3);
        x.set(0, 1);
        due.is("HOLD from now on, less", x.hazards(), 2);
        x.input(9);
        due.is("while it does not run", x.setWindow(3, 5, 6), 0);
        due.is("that was set", x.setWindow(3, 7, 8), 5);
    }

    @Says({"- `setup`: its SETUP from now on", "- `hold`: its HOLD from now on"})
    static void setupIsNotHold(Due due) {
        FoundryNine x = Circuits.register(0, 0, 2);
        x.setWindow(3, 20, 0);
        x.set(1, 1);
        x.set(0, 1);
        due.is("SETUP 20, HOLD 0: no HAZARD 4", x.hazards(), 0);
        FoundryNine y = Circuits.register(0, 0, 2);
        y.setWindow(3, 0, 20);
        y.set(0, 1);
        y.set(1, 1);
        due.is("SETUP 0, HOLD 20: no HAZARD 3", y.hazards(), 0);
    }

    @Says("- `line`: its LINE")
    static void ofItsLineAlone(Due due) {
        FoundryNine x = new FoundryNine();
        x.register(0, 2, 3, -1, 0);
        x.register(1, 2, 3, -1, 0);
        due.is("the first", x.setWindow(0, 5, 5), 0);
        due.is("the second", x.setWindow(1, 6, 6), 0);
        due.is("the first again", x.setWindow(0, 0, 0), 5);
        due.is("the second again", x.setWindow(1, 0, 0), 6);
    }

    @Says("Returns its SETUP before.")
    static void returnsItsSetupBefore(Due due) {
        FoundryNine x = new FoundryNine();
        x.register(0, 1, 2, -1, 0);
        due.is("at first", x.setWindow(0, 20, 1), 0);
        due.is("20", x.setWindow(0, 20, 2), 20);
        due.is("20, the same", x.setWindow(0, 0, 20), 20);
        due.is("0", x.setWindow(0, 3, 0), 0);
        due.is("3", x.setWindow(0, 0, 0), 3);
    }

    @Says("Throws `IndexOutOfBoundsException` if there is no such LINE")
    static void noSuchLine(Due due) {
        for (int line : Edges.outside(7)) {
            due.isRefused(Due.INDEX, "LINE " + line, Circuits::midway, x -> x.setWindow(line, 1, 1));
            due.isRefused(Due.INDEX, "LINE " + line + ", setup 21", Circuits::midway, x -> x.setWindow(line, 21, 1));
            due.isRefused(Due.INDEX, "LINE " + line + ", hold -1", Circuits::midway, x -> x.setWindow(line, 1, -1));
        }
        due.isRefused(Due.INDEX, "LINE 0 of none", Circuits::none, x -> x.setWindow(0, 0, 0));
        due.isRefused(Due.INDEX, "LINE 29 of 29", Circuits::twentyNine, x -> x.setWindow(29, 0, 0));
        due.isRefused(Due.INDEX, "LINE 30 of 30", Circuits::thirty, x -> x.setWindow(30, 0, 0));
        FoundryNine x = new FoundryNine();
        Circuits.thirty(x);
        due.is("LINE 29 of 30", x.setWindow(29, 1, 1), 0);
        FoundryNine y = new FoundryNine();
        y.register(0, 0, 0, 0, 0);
        due.is("LINE 0 of 1", y.setWindow(0, 1, 1), 0);
    }

    @Says("Throws `IllegalArgumentException` if it is no REGISTER,")
    static void itIsNoRegister(Due due) {
        due.isRefused(Due.ARGUMENT, "an INPUT", Circuits::midway, x -> x.setWindow(0, 1, 1));
        for (int kind = 0; kind <= 7; kind++) {
            int its = kind;
            due.isRefused(Due.ARGUMENT, "a GATE of kind " + kind, x -> x.gate(its, 0, 0, 0, 0, 0),
                    x -> x.setWindow(0, 1, 1));
        }
    }

    @Says("or setup or hold is not 0 to 20")
    static void setupOrHoldIsNot0To20(Due due) {
        for (int window : Edges.outside(20)) {
            due.isRefused(Due.ARGUMENT, "setup " + window, Circuits::midway, x -> x.setWindow(3, window, 1));
            due.isRefused(Due.ARGUMENT, "hold " + window, Circuits::midway, x -> x.setWindow(3, 1, window));
            due.isRefused(Due.ARGUMENT, "both " + window, Circuits::midway, x -> x.setWindow(3, window, window));
        }
        FoundryNine x = new FoundryNine();
        Circuits.midway(x);
        due.is("setup 0, hold 0", x.setWindow(3, 0, 0), 6);
        due.is("setup 20, hold 20", x.setWindow(3, 20, 20), 0);
        due.is("setup 0, hold 20", x.setWindow(3, 0, 20), 20);
        due.is("setup 20, hold 0", x.setWindow(3, 20, 0), 0);
    }

    @Says("or setup or hold is not 0 to 20")
    static void whatIsRefusedSetsNeither(Due due) {
        FoundryNine x = Circuits.register(5, 5, 2);
        due.isThrown(Due.ARGUMENT, "hold 21", () -> x.setWindow(3, 0, 21));
        due.isThrown(Due.ARGUMENT, "setup 21", () -> x.setWindow(3, 21, 0));
        x.set(0, 1);
        x.pass(4);
        x.set(1, 1);
        due.is("SETUP is 5", x.hazards(), 1);
        x.pass(4);
        x.set(0, 0);
        due.is("HOLD is 5", x.hazards(), 2);
        due.is("SETUP is told", x.setWindow(3, 0, 0), 5);
    }
}
