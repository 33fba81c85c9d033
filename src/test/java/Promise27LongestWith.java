/** Promise 27. */
@Section("Promise 27: longestWith")
final class Promise27LongestWith {
    /** INPUT 0, GATE 1 of DELAY 4, REGISTER 2 of DELAY 6, GATE 3 behind it of DELAY 1. */
    private static void some(FoundryNine x) {
        x.input(0);
        x.gate(0, 1, 0, 0, 0, 4);
        x.register(2, 1, 0, -1, 6);
        x.gate(0, 3, 2, 0, 0, 1);
    }

    @Says({"Returns what longest() would be with it.", "- `delay`: a DELAY"})
    static void whatLongestWouldBe(Due due) {
        for (int line = 1; line <= 3; line++) {
            for (int delay = 0; delay <= 20; delay++) {
                FoundryNine x = new FoundryNine();
                some(x);
                int want = line == 1 ? Math.max(delay, 7) : line == 2 ? Math.max(4, delay + 1) : Math.max(6, 6 + delay);
                due.is("longestWith(" + line + ", " + delay + ")", x.longestWith(line, delay), want);
                due.is("longest()", x.longest(), 7);
                x.setDelay(line, delay);
                due.is("longest() with it", x.longest(), want);
            }
        }
        FoundryNine most = new FoundryNine();
        most.register(0, 0, 0, -1, 20);
        Circuits.chain(most, 0, 23, 20);
        due.is("0 at the beginning of the longest that may be", most.longestWith(0, 0), 460);
        due.is("0 at its end", most.longestWith(23, 0), 460);
        due.is("20 as it is", most.longestWith(23, 20), 480);
        FoundryNine ring = new FoundryNine();
        ring.gate(1, 0, 0, 0, 0, 5);
        due.is("of a RING", ring.longestWith(0, 20), 0);
        ring.gate(1, 0, 9, 0, 0, 5);
        due.is("of a LINE that is not the first", ring.longestWith(1, 20), 0);
    }

    @Says({"- `line`: a GATE or REGISTER", "Throws `IndexOutOfBoundsException` if there is no such LINE"})
    static void noSuchLine(Due due) {
        for (int line : Edges.outside(7)) {
            due.isRefused(Due.INDEX, "LINE " + line, Circuits::midway, x -> x.longestWith(line, 1));
            due.isRefused(Due.INDEX, "LINE " + line + ", delay 21", Circuits::midway, x -> x.longestWith(line, 21));
        }
        due.isRefused(Due.INDEX, "LINE 0 of none", Circuits::none, x -> x.longestWith(0, 0));
        due.isRefused(Due.INDEX, "LINE 29 of 29", Circuits::twentyNine, x -> x.longestWith(29, 0));
        due.isRefused(Due.INDEX, "LINE 30 of 30", Circuits::thirty, x -> x.longestWith(30, 0));
        FoundryNine x = new FoundryNine();
        for (int line = 0; line < 29; line++) {
            x.input(line % 23);
        }
        x.register(23, 0, 0, -1, 3);
        due.is("LINE 29 of 30", x.longestWith(29, 20), 20);
        FoundryNine y = new FoundryNine();
        y.register(0, 0, 0, 0, 7);
        due.is("LINE 0 of 1", y.longestWith(0, 1), 1);
    }

    @Says("Throws `IllegalArgumentException` if it is an INPUT,")
    static void itIsAnInput(Due due) {
        due.isRefused(Due.ARGUMENT, "an INPUT", Circuits::midway, x -> x.longestWith(0, 0));
        due.isRefused(Due.ARGUMENT, "an INPUT, delay 21", Circuits::midway, x -> x.longestWith(2, 21));
    }

    @Says("or delay is not 0 to 20")
    static void delayIsNot0To20(Due due) {
        for (int delay : Edges.NO_DELAYS) {
            due.isRefused(Due.ARGUMENT, "of a GATE " + delay, Circuits::midway, x -> x.longestWith(4, delay));
            due.isRefused(Due.ARGUMENT, "of a REGISTER " + delay, Circuits::midway, x -> x.longestWith(3, delay));
        }
    }
}
