/** Promise 3. */
@Section("Promise 3: gate")
final class Promise03Gate {
    @Says("Adds a GATE.")
    static void addsAGate(Due due) {
        FoundryNine x = new FoundryNine();
        x.input(0);
        x.gate(0, 23, 0, 0, 0, 6);
        due.is("lines()", x.lines(), 2);
        due.is("its DELAY", x.arrival(23), 6);
        due.isThrown(Due.ARGUMENT, "it is no REGISTER", () -> x.setWindow(1, 0, 0));
        due.is("start()", x.start(), 1);
        due.isThrown(Due.ARGUMENT, "it is no INPUT", () -> x.set(23, 1));
        x.settle();
        due.is("it drives its WIRE", x.ofWire(23, 0), 1);
    }

    @Says("- `kind`: its kind")
    static void kinds0To7(Due due) {
        FoundryNine x = new FoundryNine();
        x.input(0);
        x.input(1);
        for (int kind = 0; kind <= 7; kind++) {
            due.is("kind " + kind, x.gate(kind, 2 + kind, 0, 1, 0, 0), 2 + kind);
        }
        x.start();
        x.set(1, 1);
        x.settle();
        int[] of0And1 = {1, 0, 0, 1, 1, 1, 0, 0};
        for (int kind = 0; kind <= 7; kind++) {
            due.is("kind " + kind + " of 0, 1 and 0", x.ofWire(2 + kind, 0), of0And1[kind]);
        }
    }

    @Says({"- `wire`: the WIRE that it drives", "- `a`: a"})
    static void theWiresThatItDrivesAndIsDrivenBy(Due due) {
        for (int wire : new int[] {0, 23}) {
            FoundryNine x = new FoundryNine();
            due.is("it drives it", x.gate(0, wire, 12, 0, 0, 0), 0);
            due.is("a is " + wire, x.gate(0, 12, wire, 0, 0, 0), 1);
            due.is("so it is a RING", x.flaws(), 2);
        }
    }

    @Says("- `b`: b (not looked at, if it has none)")
    static void bIsNotLookedAtIfItHasNone(Due due) {
        for (int kind = 0; kind <= 7; kind++) {
            for (int b : Edges.NO_WIRES) {
                int its = kind;
                String text = "kind " + kind + " with b " + b;
                if (kind >= 2) {
                    due.isRefused(Due.INDEX, text, Circuits::none, x -> x.gate(its, 1, 0, b, 0, 0));
                } else {
                    FoundryNine x = new FoundryNine();
                    x.input(0);
                    due.is(text, x.gate(kind, 1, 0, b, 0, 3), 1);
                    due.is(text + ": flaws()", x.flaws(), 0);
                    due.is(text + ": arrival", x.arrival(1), 3);
                    due.is(text + ": start()", x.start(), 1);
                }
            }
        }
        FoundryNine own = new FoundryNine();
        own.input(0);
        own.gate(0, 1, 0, 1, 1, 3);
        due.is("its own WIRE as a b that it has not", own.flaws(), 0);
        due.is("is not used", own.users(1), 0);
    }

    @Says("- `c`: c (not looked at, if it has none)")
    static void cIsNotLookedAtIfItHasNone(Due due) {
        for (int kind = 0; kind <= 7; kind++) {
            for (int c : Edges.NO_WIRES) {
                int its = kind;
                String text = "kind " + kind + " with c " + c;
                if (kind == 7) {
                    due.isRefused(Due.INDEX, text, Circuits::none, x -> x.gate(its, 1, 0, 0, c, 0));
                } else {
                    FoundryNine x = new FoundryNine();
                    x.input(0);
                    due.is(text, x.gate(kind, 1, 0, 0, c, 3), 1);
                    due.is(text + ": flaws()", x.flaws(), 0);
                    due.is(text + ": arrival", x.arrival(1), 3);
                }
            }
        }
        FoundryNine own = new FoundryNine();
        own.input(0);
        own.gate(6, 1, 0, 0, 1, 3);
        due.is("its own WIRE as a c that it has not", own.flaws(), 0);
        due.is("is not used", own.users(1), 0);
    }

    @Says("- `delay`: its DELAY")
    static void delays0To20(Due due) {
        FoundryNine x = new FoundryNine();
        x.input(0);
        x.gate(0, 1, 0, 0, 0, 0);
        x.gate(0, 2, 0, 0, 0, 20);
        due.is("DELAY 0", x.arrival(1), 0);
        due.is("DELAY 20", x.arrival(2), 20);
        x.start();
        due.is("0 comes now", x.pass(0), 1);
        due.is("20 does not at 19", x.pass(19), 0);
        due.is("20 comes at 20", x.pass(1), 1);
    }

    @Says("Returns its number.")
    static void returnsItsNumber0To29(Due due) {
        FoundryNine x = new FoundryNine();
        for (int line = 0; line < 30; line++) {
            due.is("gate", x.gate(line % 8, line % 24, 0, 0, 0, 0), line);
        }
    }

    @Says("Throws `IllegalArgumentException` if kind is not 0 to 7,")
    static void kindIsNot0To7(Due due) {
        for (int kind : Edges.NO_KINDS) {
            due.isRefused(Due.ARGUMENT, "kind " + kind, Circuits::midway, x -> x.gate(kind, 8, 0, 1, 2, 0));
            due.isRefused(Due.ARGUMENT, "kind " + kind + ", no WIRE", Circuits::none,
                    x -> x.gate(kind, 24, 24, 24, 24, 0));
            due.isRefused(Due.ARGUMENT, "kind " + kind + ", 30", Circuits::thirty, x -> x.gate(kind, 0, 0, 0, 0, 0));
        }
    }

    @Says("or delay is not 0 to 20")
    static void delayIsNot0To20(Due due) {
        for (int delay : Edges.NO_DELAYS) {
            due.isRefused(Due.ARGUMENT, "delay " + delay, Circuits::midway, x -> x.gate(7, 8, 0, 1, 2, delay));
            due.isRefused(Due.ARGUMENT, "delay " + delay + ", no WIRE", Circuits::none,
                    x -> x.gate(0, 0, 24, 0, 0, delay));
            due.isRefused(Due.ARGUMENT, "delay " + delay + ", 30", Circuits::thirty, x -> x.gate(0, 0, 0, 0, 0, delay));
        }
    }

    @Says("Throws `IndexOutOfBoundsException` if there is no such WIRE")
    static void noSuchWire(Due due) {
        for (int wire : Edges.NO_WIRES) {
            for (int kind = 0; kind <= 7; kind++) {
                int its = kind;
                String text = "kind " + kind + ", " + wire + " as ";
                due.isRefused(Due.INDEX, text + "wire", Circuits::none, x -> x.gate(its, wire, 0, 0, 0, 0));
                due.isRefused(Due.INDEX, text + "a", Circuits::none, x -> x.gate(its, 0, wire, 0, 0, 0));
            }
            due.isRefused(Due.INDEX, wire + " as wire", Circuits::midway, x -> x.gate(7, wire, 0, 1, 2, 3));
            due.isRefused(Due.INDEX, wire + " as a", Circuits::midway, x -> x.gate(7, 8, wire, 1, 2, 3));
            due.isRefused(Due.INDEX, wire + " as b", Circuits::midway, x -> x.gate(7, 8, 0, wire, 2, 3));
            due.isRefused(Due.INDEX, wire + " as c", Circuits::midway, x -> x.gate(7, 8, 0, 1, wire, 3));
        }
        for (int wire : new int[] {0, 23}) {
            FoundryNine x = new FoundryNine();
            due.is(wire + " as each", x.gate(7, wire, wire, wire, wire, 0), 0);
        }
    }

    @Says("Throws `IllegalStateException` if there are 30")
    static void thereAre30(Due due) {
        FoundryNine x = new FoundryNine();
        Circuits.twentyNine(x);
        due.is("there are 29", x.gate(7, 0, 1, 2, 3, 20), 29);
        due.isThrown(Due.STATE, "there are 30", () -> x.gate(7, 0, 1, 2, 3, 20));
        due.is("lines() behind it", x.lines(), 30);
        due.isRefused(Due.STATE, "gate", Circuits::thirty, y -> y.gate(7, 8, 9, 10, 11, 20));
        due.isRefused(Due.INDEX, "no such WIRE is named first", Circuits::thirty, y -> y.gate(2, 0, 0, 24, 0, 0));
        due.isRefused(Due.STATE, "a b that is not looked at", Circuits::thirty, y -> y.gate(1, 0, 0, 24, 0, 0));
    }
}
