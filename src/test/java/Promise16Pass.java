/** Promise 16. */
@Section("Promise 16: pass")
final class Promise16Pass {
    @Says("PASSES to the TIME that is some later;")
    static void toTheTimeThatIsSomeLater(Due due) {
        FoundryNine x = new FoundryNine();
        x.start();
        int time = 0;
        for (int by : new int[] {0, 1, 99, 100, 0, 100}) {
            due.is("pass(" + by + ")", x.pass(by), 0);
            time += by;
            due.is("the TIME", x.told(0), time);
        }
    }

    @Says("the TIME is that then (also if it is RESTLESS).")
    static void theTimeIsThatThenAlsoIfItIsRestless(Due due) {
        FoundryNine x = new FoundryNine();
        x.input(0);
        Circuits.buzzers(x, 0, 1, 0, 1);
        x.start();
        x.pass(7);
        x.set(0, 1);
        due.is("pass(60)", x.pass(60), 300);
        due.is("RESTLESS", x.told(4), 1);
        due.is("the TIME", x.told(0), 67);
        due.is("it changed last at", x.ofWire(1, 1), 7);
        FoundryNine y = new FoundryNine();
        y.input(0);
        y.gate(0, 1, 0, 0, 0, 3);
        y.start();
        y.pass(10);
        due.is("behind what came last", y.told(0), 10);
        y.set(0, 1);
        y.pass(1);
        due.is("ahead of what comes next", y.told(0), 11);
    }

    @Says("- `by`: by how much")
    static void from0To100(Due due) {
        for (int delay : new int[] {0, 20}) {
            FoundryNine x = new FoundryNine();
            x.input(0);
            x.gate(0, 1, 0, 0, 0, delay);
            Circuits.chain(x, 1, 5, 20);
            x.gate(0, 6, 5, 0, 0, delay == 0 ? 20 : 0);
            x.start();
            due.is("up to 99", x.pass(99), delay == 0 ? 5 : 4);
            due.is("at 100", x.pass(1), delay == 0 ? 1 : 2);
            x.start();
            due.is("up to 100 at once", x.pass(100), 6);
        }
    }

    @Says("Returns how many CHANGES there were.")
    static void howManyChangesThereWere(Due due) {
        FoundryNine x = Circuits.register(0, 0, 1);
        x.gate(1, 4, 3, 0, 0, 1);
        x.start();
        due.is("none", x.pass(100), 0);
        x.set(2, 1);
        due.is("those of this call alone, none of INPUTS", x.pass(1), 1);
        due.is("the next", x.pass(1), 1);
        x.set(2, 0);
        x.set(2, 1);
        due.is("what comes, but is none", x.pass(5), 0);
    }

    @Says("Throws `IllegalStateException` if it does not run")
    static void itDoesNotRun(Due due) {
        due.isRefused(Due.STATE, "ahead of START", Circuits::told, x -> x.pass(0));
        due.isRefused(Due.STATE, "ahead of START, by -1", Circuits::told, x -> x.pass(-1));
        due.isRefused(Due.STATE, "behind a LINE", Circuits::twentyNine, x -> x.pass(100));
        due.isRefused(Due.STATE, "behind a LINE, by 101", Circuits::twentyNine, x -> x.pass(101));
    }

    @Says("Throws `IllegalArgumentException` if by is not 0 to 100")
    static void byIsNot0To100(Due due) {
        for (int by : Edges.outside(100)) {
            due.isRefused(Due.ARGUMENT, "pass(" + by + ")", Circuits::midway, x -> x.pass(by));
        }
    }
}
