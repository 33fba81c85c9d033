/** Promise 18. */
@Section("Promise 18: isRunning")
final class Promise18IsRunning {
    @Says("`boolean isRunning()`: Returns whether it runs.")
    static void whetherItRuns(Due due) {
        FoundryNine x = new FoundryNine();
        due.is("new", x.isRunning(), false);
        x.input(0);
        x.gate(5, 1, 0, 1, 0, 0);
        due.is("ahead of START", x.isRunning(), false);
        x.start();
        due.is("STARTED", x.isRunning(), true);
        x.pass(1);
        x.settle();
        due.is("as it SETTLED", x.isRunning(), true);
        x.set(0, 1);
        x.settle();
        due.is("RESTLESS", x.isRunning(), true);
        x.setDelay(1, 4);
        due.is("behind setDelay", x.isRunning(), true);
        x.start();
        due.is("STARTED anew", x.isRunning(), true);
        x.register(2, 0, 1, -1, 0);
        due.is("behind a LINE", x.isRunning(), false);
        x.start();
        x.setWindow(2, 1, 1);
        due.is("behind setWindow", x.isRunning(), true);
        x.input(0);
        due.isThrown(Due.STATE, "a FLAW", () -> x.start());
        due.is("not STARTED", x.isRunning(), false);
    }
}
