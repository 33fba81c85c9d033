/** Promise 8. */
@Section("Promise 8: flaws")
final class Promise08Flaws {
    @Says("`int flaws()`: Returns how many FLAWS there are.")
    static void from0To54(Due due) {
        FoundryNine x = new FoundryNine();
        due.is("no LINES", x.flaws(), 0);
        x.input(1);
        due.is("no FLAWS", x.flaws(), 0);
        x.gate(7, 2, 1, 3, 4, 0);
        due.is("two WIRES that nobody drives", x.flaws(), 2);
        x.gate(1, 3, 3, 0, 0, 0);
        due.is("one less, and a RING", x.flaws(), 2);
        x.input(4);
        due.is("one less", x.flaws(), 1);
        FoundryNine most = new FoundryNine();
        for (int line = 0; line < 30; line++) {
            most.gate(7, line % 15, line % 15, 15 + line % 9, 15, 0);
        }
        due.is("as many as there may be", most.flaws(), 54);
    }

    @Says("Returns how many FLAWS there are.")
    static void theyDoNotChangeAsItRuns(Due due) {
        FoundryNine x = new FoundryNine();
        Circuits.told(x);
        due.is("ahead", x.flaws(), 1);
        x.start();
        due.is("as it runs", x.flaws(), 1);
        x.settle();
        x.setDelay(6, 0);
        due.is("behind setDelay", x.flaws(), 1);
    }
}
