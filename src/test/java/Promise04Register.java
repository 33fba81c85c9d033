/** Promise 4. */
@Section("Promise 4: register")
final class Promise04Register {
    @Says("Adds a REGISTER.")
    static void addsARegister(Due due) {
        FoundryNine x = new FoundryNine();
        x.input(0);
        x.input(1);
        x.register(23, 0, 1, -1, 6);
        due.is("lines()", x.lines(), 3);
        due.is("its DELAY", x.arrival(23), 6);
        due.is("its SETUP", x.setWindow(2, 0, 0), 0);
        due.is("start()", x.start(), 0);
        due.isThrown(Due.ARGUMENT, "it is no INPUT", () -> x.set(23, 1));
        x.set(1, 1);
        due.is("it RISES", x.settle(), 1);
        due.is("it drives its WIRE", x.ofWire(23, 0), 0);
    }

    @Says({"- `wire`: the WIRE that it drives", "- `data`: its DATA", "- `clock`: its CLOCK"})
    static void dataAndClockAreNotOneForTheOther(Due due) {
        FoundryNine x = new FoundryNine();
        x.input(23);
        x.input(0);
        x.register(12, 23, 0, -1, 0);
        x.start();
        x.set(23, 1);
        due.is("DATA makes no RISE", x.pending(2), -1);
        x.set(0, 1);
        due.is("CLOCK does, with DATA", x.pending(2), 1);
        due.is("its own WIRE as DATA and CLOCK", x.register(5, 5, 5, 5, 0), 3);
    }

    @Says("- `reset`: its RESET; -1 for none")
    static void minus1IsForNoReset(Due due) {
        FoundryNine x = new FoundryNine();
        x.input(0);
        due.is("-1", x.register(1, 0, 0, -1, 0), 1);
        due.is("0 is a WIRE", x.register(2, 1, 1, 0, 0), 2);
        due.is("23 is a WIRE", x.register(23, 0, 0, 23, 0), 3);
        due.is("users(0), by RESET 0", x.users(0), 3);
        due.is("users(23), by RESET 23", x.users(23), 1);
        due.isRefused(Due.INDEX, "-2 is none", Circuits::midway, y -> y.register(8, 0, 1, -2, 0));
        due.isRefused(Due.INDEX, "-1 as wire", Circuits::midway, y -> y.register(-1, 0, 1, 2, 0));
        due.isRefused(Due.INDEX, "-1 as DATA", Circuits::midway, y -> y.register(8, -1, 1, 2, 0));
        due.isRefused(Due.INDEX, "-1 as CLOCK", Circuits::midway, y -> y.register(8, 0, -1, 2, 0));
    }

    @Says("- `delay`: its DELAY")
    static void delays0To20(Due due) {
        for (int delay : new int[] {0, 20}) {
            FoundryNine x = Circuits.register(0, 0, delay);
            due.is("arrival", x.arrival(3), delay);
            x.set(2, 1);
            due.is("it comes at", x.told(2), 30 + delay);
        }
    }

    @Says("Returns its number.")
    static void returnsItsNumber0To29(Due due) {
        FoundryNine x = new FoundryNine();
        for (int line = 0; line < 30; line++) {
            due.is("register", x.register(line % 24, 0, 1, line % 2 - 1, 0), line);
        }
    }

    @Says("Throws `IndexOutOfBoundsException` if there is no such WIRE (but -1 for reset)")
    static void noSuchWire(Due due) {
        for (int wire : Edges.NO_WIRES) {
            due.isRefused(Due.INDEX, wire + " as wire", Circuits::midway, x -> x.register(wire, 0, 1, 2, 3));
            due.isRefused(Due.INDEX, wire + " as DATA", Circuits::midway, x -> x.register(8, wire, 1, 2, 3));
            due.isRefused(Due.INDEX, wire + " as CLOCK", Circuits::midway, x -> x.register(8, 0, wire, 2, 3));
            due.isRefused(Due.INDEX, wire + ", delay 21", Circuits::midway, x -> x.register(8, wire, 1, -1, 21));
            if (wire != -1) {
                due.isRefused(Due.INDEX, wire + " as RESET", Circuits::midway, x -> x.register(8, 0, 1, wire, 3));
                due.isRefused(Due.INDEX, wire + " as RESET, delay 21", Circuits::midway,
                        x -> x.register(8, 0, 1, wire, 21));
            }
        }
        for (int wire : new int[] {0, 23}) {
            FoundryNine x = new FoundryNine();
            due.is(wire + " as each", x.register(wire, wire, wire, wire, 0), 0);
        }
    }

    @Says("Throws `IllegalArgumentException` if delay is not 0 to 20")
    static void delayIsNot0To20(Due due) {
        for (int delay : Edges.NO_DELAYS) {
            due.isRefused(Due.ARGUMENT, "delay " + delay, Circuits::midway, x -> x.register(8, 0, 1, 2, delay));
            due.isRefused(Due.ARGUMENT, "delay " + delay + ", 30", Circuits::thirty,
                    x -> x.register(8, 0, 1, -1, delay));
        }
    }

    @Says("Throws `IllegalStateException` if there are 30")
    static void thereAre30(Due due) {
        FoundryNine x = new FoundryNine();
        Circuits.twentyNine(x);
        due.is("there are 29", x.register(0, 1, 2, -1, 20), 29);
        due.isThrown(Due.STATE, "there are 30", () -> x.register(0, 1, 2, -1, 20));
        due.is("lines() behind it", x.lines(), 30);
        due.isRefused(Due.STATE, "register", Circuits::thirty, y -> y.register(8, 9, 10, -1, 20));
        due.isRefused(Due.INDEX, "no such WIRE is named first", Circuits::thirty, y -> y.register(0, 0, 0, -2, 0));
    }
}
