/** Promise 6. */
@Section("Promise 6: setDelay")
final class Promise06SetDelay {
    @Says("Sets the DELAY of a GATE or REGISTER, also while it runs")
    static void ofAGateOrARegisterAlsoWhileItRuns(Due due) {
        FoundryNine x = Circuits.register(0, 0, 4);
        x.setDelay(3, 9);
        due.is("it runs on", x.isRunning(), true);
        due.is("the ARRIVAL of a REGISTER", x.arrival(3), 9);
        x.set(2, 1);
        due.is("a REGISTER comes at", x.told(2), 39);
        FoundryNine y = new FoundryNine();
        y.input(0);
        y.gate(0, 1, 0, 0, 0, 5);
        y.gate(0, 2, 1, 0, 0, 5);
        y.setDelay(1, 20);
        due.is("the ARRIVAL of a GATE", y.arrival(1), 20);
        due.is("the ARRIVAL behind it", y.arrival(2), 25);
        due.is("longest()", y.longest(), 25);
        y.start();
        due.is("a GATE comes at", y.told(2), 20);
        y.setDelay(1, 0);
        due.is("while it runs, too: longest()", y.longest(), 5);
        y.settle();
        y.set(0, 1);
        due.is("while it runs, too: it comes at", y.told(2), y.told(0));
    }

    @Says("(what is PENDING stays).")
    static void whatIsPendingStays(Due due) {
        FoundryNine x = new FoundryNine();
        x.input(0);
        x.gate(0, 1, 0, 0, 0, 5);
        x.register(2, 0, 0, 1, 6);
        x.start();
        x.settle();
        int time = x.told(0);
        x.set(0, 1);
        due.is("PENDING", x.pending(1), 0);
        due.is("its TIME", x.told(2), time + 5);
        x.setDelay(1, 20);
        due.is("PENDING, longer", x.pending(1), 0);
        due.is("its TIME, longer", x.told(2), time + 5);
        x.pass(2);
        x.setDelay(1, 0);
        due.is("its TIME, shorter", x.told(2), time + 5);
        due.is("not SWALLOWED", x.told(3), 0);
        due.is("not ahead of its TIME", x.pass(2), 0);
        due.is("at its TIME", x.pass(1), 1);
        FoundryNine y = Circuits.register(0, 0, 4);
        y.set(2, 1);
        y.setDelay(3, 20);
        due.is("of a REGISTER: its TIME", y.told(2), 34);
        due.is("of a REGISTER: it comes", y.pass(4), 1);
    }

    @Says("Returns the one before.")
    static void returnsTheOneBefore(Due due) {
        FoundryNine x = new FoundryNine();
        x.gate(0, 1, 0, 0, 0, 20);
        x.register(2, 0, 0, -1, 3);
        due.is("of a GATE", x.setDelay(0, 0), 20);
        due.is("of a GATE, 0", x.setDelay(0, 20), 0);
        due.is("of a GATE, 20", x.setDelay(0, 20), 20);
        due.is("of a REGISTER", x.setDelay(1, 1), 3);
        due.is("of a REGISTER again", x.setDelay(1, 2), 1);
    }

    @Says({"- `line`: its LINE", "Throws `IndexOutOfBoundsException` if there is no such LINE"})
    static void noSuchLine(Due due) {
        for (int line : Edges.outside(7)) {
            due.isRefused(Due.INDEX, "LINE " + line, Circuits::midway, x -> x.setDelay(line, 1));
            due.isRefused(Due.INDEX, "LINE " + line + ", delay 21", Circuits::midway, x -> x.setDelay(line, 21));
        }
        due.isRefused(Due.INDEX, "LINE 0 of none", Circuits::none, x -> x.setDelay(0, 0));
        due.isRefused(Due.INDEX, "LINE 29 of 29", Circuits::twentyNine, x -> x.setDelay(29, 0));
        due.isRefused(Due.INDEX, "LINE 30 of 30", Circuits::thirty, x -> x.setDelay(30, 0));
        FoundryNine x = new FoundryNine();
        Circuits.thirty(x);
        due.is("LINE 29 of 30", x.setDelay(29, 0), 2);
        FoundryNine y = new FoundryNine();
        y.gate(0, 0, 0, 0, 0, 7);
        due.is("LINE 0 of 1", y.setDelay(0, 1), 7);
    }

    @Says("Throws `IllegalArgumentException` if it is an INPUT,")
    static void itIsAnInput(Due due) {
        due.isRefused(Due.ARGUMENT, "an INPUT", Circuits::midway, x -> x.setDelay(0, 0));
        due.isRefused(Due.ARGUMENT, "an INPUT, delay 21", Circuits::midway, x -> x.setDelay(0, 21));
        due.isRefused(Due.ARGUMENT, "an INPUT, the last LINE", x -> {
            x.gate(0, 0, 0, 0, 0, 0);
            x.input(1);
        }, x -> x.setDelay(1, 5));
    }

    @Says({"- `delay`: its DELAY from now on", "or delay is not 0 to 20"})
    static void delayIsNot0To20(Due due) {
        for (int delay : Edges.NO_DELAYS) {
            due.isRefused(Due.ARGUMENT, "of a GATE " + delay, Circuits::midway, x -> x.setDelay(4, delay));
            due.isRefused(Due.ARGUMENT, "of a REGISTER " + delay, Circuits::midway, x -> x.setDelay(3, delay));
        }
        FoundryNine x = new FoundryNine();
        Circuits.midway(x);
        due.is("0 of a GATE", x.setDelay(4, 0), 3);
        due.is("20 of a GATE", x.setDelay(4, 20), 0);
        due.is("0 of a REGISTER", x.setDelay(3, 0), 4);
        due.is("20 of a REGISTER", x.setDelay(3, 20), 0);
    }
}
