/** Promise 17. */
@Section("Promise 17: settle")
final class Promise17Settle {
    @Says("SETTLES: lets all come that is PENDING, as long as anything is;")
    static void asLongAsAnythingIsPending(Due due) {
        FoundryNine x = new FoundryNine();
        x.input(0);
        Circuits.chain(x, 0, 23, 20);
        x.start();
        due.is("settle()", x.settle(), 23);
        due.is("nothing is PENDING", x.told(1), 0);
        due.is("the last changed at", x.ofWire(23, 1), 460);
        due.is("settle() again", x.settle(), 0);
    }

    @Says("the TIME is that of what came last,")
    static void theTimeIsThatOfWhatCameLast(Due due) {
        FoundryNine x = Circuits.register(0, 0, 5);
        x.set(1, 1);
        x.settle();
        due.is("a CHANGE", x.told(0), 35);
        x.pass(1);
        x.set(1, 0);
        x.set(1, 1);
        due.is("what is none", x.settle(), 0);
        due.is("counts, too", x.told(0), 41);
        FoundryNine y = new FoundryNine();
        y.input(0);
        Circuits.buzzers(y, 0, 1, 2, 1);
        y.start();
        y.settle();
        y.set(0, 1);
        due.is("RESTLESS", y.settle(), 300);
        due.is("the 300th", y.told(0), 2 + 600);
    }

    @Says("if anything did.")
    static void theTimeStaysIfNothingCame(Due due) {
        FoundryNine x = new FoundryNine();
        x.input(0);
        x.gate(0, 1, 0, 0, 0, 5);
        x.start();
        x.pass(50);
        due.is("settle()", x.settle(), 0);
        due.is("the TIME", x.told(0), 50);
        x.set(0, 1);
        x.pass(1);
        x.set(0, 0);
        due.is("SWALLOWED", x.settle(), 0);
        due.is("the TIME, too", x.told(0), 51);
        FoundryNine none = new FoundryNine();
        none.start();
        due.is("no LINES", none.settle(), 0);
        due.is("the TIME of none", none.told(0), 0);
    }

    @Says("Returns how many CHANGES there were.")
    static void howManyChangesThereWere(Due due) {
        FoundryNine x = Circuits.register(0, 0, 1);
        x.gate(1, 4, 3, 0, 0, 1);
        x.start();
        due.is("none", x.settle(), 0);
        x.set(2, 1);
        due.is("two, none of INPUTS", x.settle(), 2);
        x.set(2, 0);
        x.set(2, 1);
        due.is("what comes, but is none", x.settle(), 0);
    }

    @Says("Throws `IllegalStateException` if it does not run")
    static void itDoesNotRun(Due due) {
        due.isRefused(Due.STATE, "ahead of START", Circuits::told, x -> x.settle());
        due.isRefused(Due.STATE, "behind a LINE", Circuits::twentyNine, x -> x.settle());
        due.isRefused(Due.STATE, "behind a START that was refused", x -> {
            x.gate(0, 1, 0, 0, 0, 0);
            try {
                x.start();
            } catch (IllegalStateException e) {
                x.lines();
            }
        }, x -> x.settle());
    }
}
