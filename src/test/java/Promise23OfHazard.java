/** Promise 23. */
@Section("Promise 23: ofHazard")
final class Promise23OfHazard {
    /** Three HAZARDS, 4 of WIRE 3 each, at 30, 31 and 32. */
    private static void three(FoundryNine x) {
        x.input(0);
        x.input(1);
        x.register(3, 0, 1, -1, 0);
        x.setWindow(2, 0, 20);
        x.start();
        x.pass(30);
        x.set(1, 1);
        for (int i = 1; i <= 3; i++) {
            x.set(0, i % 2);
            x.pass(1);
        }
    }

    @Says({"- `hazard`: the number of a HAZARD, from 0", "Returns that."})
    static void numbersFrom0(Due due) {
        FoundryNine x = new FoundryNine();
        three(x);
        for (int hazard = 0; hazard < 3; hazard++) {
            due.is("as it was noted", x.ofHazard(hazard, 2), 30 + hazard);
        }
    }

    @Says("- `what`: 0 its code, 1 the WIRE, 2 the TIME")
    static void codeWireAndTime(Due due) {
        FoundryNine x = new FoundryNine();
        three(x);
        due.is("its code", x.ofHazard(1, 0), 4);
        due.is("the WIRE", x.ofHazard(1, 1), 3);
        due.is("the TIME", x.ofHazard(1, 2), 31);
    }

    @Says("Throws `IndexOutOfBoundsException` if there is no such HAZARD")
    static void noSuchHazard(Due due) {
        for (int hazard : Edges.outside(2)) {
            for (int what = -1; what <= 3; what++) {
                int its = what;
                due.isRefused(Due.INDEX, "HAZARD " + hazard + ", what " + what, Promise23OfHazard::three,
                        x -> x.ofHazard(hazard, its));
            }
        }
        due.isRefused(Due.INDEX, "HAZARD 0 of none", Circuits::started, x -> x.ofHazard(0, 0));
        FoundryNine x = new FoundryNine();
        three(x);
        for (int i = 0; i < 45; i++) {
            x.set(0, i % 2);
        }
        due.is("the 40th", x.ofHazard(39, 0), 4);
        for (int hazard : Edges.outside(39)) {
            due.isThrown(Due.INDEX, "HAZARD " + hazard + " of 40", () -> x.ofHazard(hazard, 0));
        }
        x.start();
        due.isThrown(Due.INDEX, "HAZARD 0 ahead of START", () -> x.ofHazard(0, 0));
    }

    @Says("Throws `IllegalArgumentException` if what is not 0 to 2")
    static void whatIsNot0To2(Due due) {
        for (int what : Edges.outside(2)) {
            for (int hazard = 0; hazard <= 2; hazard++) {
                int its = hazard;
                due.isRefused(Due.ARGUMENT, "HAZARD " + hazard + ", what " + what, Promise23OfHazard::three,
                        x -> x.ofHazard(its, what));
            }
        }
    }
}
