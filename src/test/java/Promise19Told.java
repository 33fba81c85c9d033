/** Promise 19. */
@Section("Promise 19: told")
final class Promise19Told {
    @Says("- `what`: 0 the TIME,")
    static void what0IsTheTime(Due due) {
        FoundryNine x = new FoundryNine();
        x.input(0);
        x.gate(0, 1, 0, 0, 0, 5);
        x.start();
        due.is("STARTED", x.told(0), 0);
        x.pass(3);
        due.is("passed", x.told(0), 3);
        x.settle();
        due.is("SETTLED", x.told(0), 5);
        x.pass(0);
        due.is("passed by 0", x.told(0), 5);
        x.start();
        due.is("STARTED anew", x.told(0), 0);
    }

    @Says("1 how many LINES have something PENDING,")
    static void what1IsHowManyArePending(Due due) {
        FoundryNine x = Circuits.register(0, 0, 5);
        due.is("none", x.told(1), 0);
        x.set(2, 1);
        due.is("one", x.told(1), 1);
        x.set(2, 0);
        x.set(2, 1);
        due.is("one, anew", x.told(1), 1);
        x.settle();
        due.is("none, as it came", x.told(1), 0);
        FoundryNine all = new FoundryNine();
        all.input(0);
        for (int wire = 1; wire < 24; wire++) {
            all.gate(0, wire, 0, 0, 0, 0);
        }
        all.start();
        due.is("all but the INPUT", all.told(1), 23);
    }

    @Says("2 the TIME of what comes next (-1 if nothing is PENDING),")
    static void what2IsTheTimeOfWhatComesNext(Due due) {
        FoundryNine x = new FoundryNine();
        x.input(0);
        x.gate(0, 1, 0, 0, 0, 9);
        x.gate(0, 2, 0, 0, 0, 0);
        x.gate(0, 3, 0, 0, 0, 20);
        x.gate(0, 4, 0, 0, 0, 4);
        x.start();
        due.is("TIME 0", x.told(2), 0);
        x.pass(0);
        due.is("the least of three", x.told(2), 4);
        x.pass(4);
        due.is("the least of two", x.told(2), 9);
        x.pass(10);
        due.is("the last", x.told(2), 20);
        x.pass(6);
        due.is("nothing", x.told(2), -1);
        x.set(0, 1);
        due.is("at this TIME", x.told(2), 20);
    }

    @Says("3 how many were SWALLOWED since START,")
    static void what3IsHowManyWereSwallowedSinceStart(Due due) {
        FoundryNine x = new FoundryNine();
        x.input(0);
        x.gate(0, 1, 0, 0, 0, 5);
        x.gate(0, 2, 0, 0, 0, 5);
        x.start();
        x.settle();
        due.is("none", x.told(3), 0);
        for (int i = 1; i <= 5; i++) {
            x.set(0, 1);
            due.is("PENDING", x.told(3), 2 * i - 2);
            x.set(0, 0);
            due.is("SWALLOWED", x.told(3), 2 * i);
        }
        x.settle();
        due.is("behind settle()", x.told(3), 10);
        x.start();
        due.is("since START", x.told(3), 0);
    }

    @Says("4 how often it was RESTLESS since then,")
    static void what4IsHowOftenItWasRestlessSinceThen(Due due) {
        FoundryNine x = new FoundryNine();
        x.input(0);
        Circuits.buzzers(x, 0, 1, 0, 1);
        x.start();
        x.settle();
        due.is("never", x.told(4), 0);
        for (int i = 1; i <= 3; i++) {
            x.set(0, 0);
            x.set(0, 1);
            due.is("ahead", x.told(4), i - 1);
            x.pass(0);
            due.is("behind", x.told(4), i);
            x.settle();
            due.is("at rest", x.told(4), i);
        }
        x.start();
        due.is("since START", x.told(4), 0);
    }

    @Says("5 how many CHANGES there were since then, those of INPUTS, too")
    static void what5IsHowManyChangesThereWereSinceThen(Due due) {
        FoundryNine x = new FoundryNine();
        x.input(0);
        x.input(1);
        x.gate(0, 2, 0, 0, 0, 5);
        x.start();
        due.is("the INPUTS at START", x.told(5), 2);
        x.settle();
        due.is("a GATE", x.told(5), 3);
        x.set(1, 1);
        due.is("an INPUT that is set", x.told(5), 4);
        x.set(1, 1);
        due.is("an INPUT that is set, but so already", x.told(5), 4);
        x.settle();
        x.set(0, 1);
        x.pass(10);
        due.is("an INPUT and a GATE", x.told(5), 6);
        x.start();
        due.is("since START", x.told(5), 2);
    }

    @Says("Returns that, as it was left, if it does not run")
    static void asItWasLeftIfItDoesNotRun(Due due) {
        FoundryNine x = new FoundryNine();
        FoundryNine twin = new FoundryNine();
        Circuits.midway(x);
        Circuits.midway(twin);
        x.input(9);
        x.gate(0, 10, 11, 0, 0, 3);
        due.isThrown(Due.STATE, "a START that is refused", () -> x.start());
        for (int what = 0; what <= 5; what++) {
            due.is("told(" + what + ")", x.told(what), twin.told(what));
            due.is("told(" + what + ") is not as ahead of START", x.told(what) == 0 || what == 2 && x.told(2) == -1,
                    what == 4);
        }
    }

    @Says("(0 each, but -1 with 2, ahead of the first START).")
    static void aheadOfTheFirstStart(Due due) {
        for (int lines = 0; lines < 2; lines++) {
            FoundryNine x = new FoundryNine();
            if (lines == 1) {
                Circuits.told(x);
            }
            for (int what = 0; what <= 5; what++) {
                due.is("told(" + what + ")", x.told(what), what == 2 ? -1 : 0);
            }
        }
    }

    @Says("Throws `IllegalArgumentException` if what is not 0 to 5")
    static void whatIsNot0To5(Due due) {
        for (int what : Edges.outside(5)) {
            due.isRefused(Due.ARGUMENT, "told(" + what + ")", Circuits::none, x -> x.told(what));
            due.isRefused(Due.ARGUMENT, "as it runs: told(" + what + ")", Circuits::midway, x -> x.told(what));
        }
    }
}
