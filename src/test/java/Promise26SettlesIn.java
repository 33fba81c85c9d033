/** Promise 26. */
@Section("Promise 26: settlesIn")
final class Promise26SettlesIn {
    @Says("Returns how much later what is PENDING, and what comes of it, would have come")
    static void withWhatComesOfIt(Due due) {
        FoundryNine x = new FoundryNine();
        x.input(0);
        Circuits.chain(x, 0, 23, 20);
        x.start();
        due.is("STARTED", x.settlesIn(), 460);
        x.pass(1);
        due.is("1 later", x.settlesIn(), 459);
        for (int time = 101; time <= 401; time += 100) {
            x.pass(100);
        }
        x.pass(58);
        due.is("1 ahead of the end", x.settlesIn(), 1);
        x.pass(1);
        due.is("at the end", x.settlesIn(), 0);
        FoundryNine y = Circuits.register(0, 0, 5);
        y.set(2, 1);
        y.settle();
        y.set(2, 0);
        y.set(2, 1);
        due.is("what comes, and is no CHANGE", y.settlesIn(), 5);
        y.start();
        due.is("nothing", y.settlesIn(), 0);
        FoundryNine z = new FoundryNine();
        z.input(0);
        z.gate(0, 1, 0, 0, 0, 0);
        z.start();
        due.is("at this TIME", z.settlesIn(), 0);
        due.is("though it is PENDING", z.pending(1), 1);
    }

    @Says("(0 if nothing is);")
    static void nothingIsPending(Due due) {
        FoundryNine none = new FoundryNine();
        none.start();
        due.is("no LINES", none.settlesIn(), 0);
        none.pass(100);
        due.is("no LINES, later", none.settlesIn(), 0);
        FoundryNine x = new FoundryNine();
        x.input(0);
        x.gate(0, 1, 0, 0, 0, 5);
        x.start();
        x.settle();
        x.pass(7);
        due.is("SETTLED", x.settlesIn(), 0);
        x.wouldBe(0, 1, 1);
        due.is("behind wouldBe()", x.settlesIn(), 0);
        x.set(0, 1);
        x.set(0, 0);
        due.is("SWALLOWED", x.settlesIn(), 0);
    }

    @Says("-1 if it would be RESTLESS.")
    static void minus1IfItWouldBeRestless(Due due) {
        due.is("300 come", Circuits.busyForAWhile(1).settlesIn(), 20);
        due.is("301 would", Circuits.busyForAWhile(2).settlesIn(), -1);
        FoundryNine x = Circuits.busyForAWhile(2);
        x.settlesIn();
        due.is("it was not RESTLESS", x.told(4), 0);
        x.settle();
        due.is("it is now", x.told(4), 1);
        due.is("behind it", x.settlesIn(), 0);
        x.set(19, 0);
        due.is("it would not be once more", x.settlesIn(), 20);
        x.set(0, 1);
        due.is("it would be once more", x.settlesIn(), -1);
        x.settle();
        due.is("it is once more", x.told(4), 2);
        due.is("behind that, too", x.settlesIn(), 0);
    }

    @Says("-1 if it would be RESTLESS.")
    static void howeverFastItIs(Due due) {
        for (int delay = 0; delay <= 20; delay++) {
            FoundryNine x = new FoundryNine();
            x.input(0);
            Circuits.buzzers(x, 0, 1, delay, 1);
            x.start();
            due.is("DELAY " + delay + ", at rest", x.settlesIn(), delay);
            x.settle();
            x.set(0, 1);
            due.is("DELAY " + delay, x.settlesIn(), -1);
            x.pass(100);
            due.is("DELAY " + delay + ", later", x.settlesIn(), delay == 0 ? 0 : -1);
        }
    }

    @Says("Throws `IllegalStateException` if it does not run")
    static void itDoesNotRun(Due due) {
        due.isRefused(Due.STATE, "new", Circuits::none, x -> x.settlesIn());
        due.isRefused(Due.STATE, "ahead of START", Circuits::told, x -> x.settlesIn());
        due.isRefused(Due.STATE, "behind a LINE", Circuits::twentyNine, x -> x.settlesIn());
    }
}
