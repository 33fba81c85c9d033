/** What a reader is, all of it: what it answers now, and what it answers as it is used further. */
final class Look {
    private static final int WIRES = 24;

    private final FoundryNine x;
    private final StringBuilder seen = new StringBuilder();

    private Look(FoundryNine x) {
        this.x = x;
    }

    /** Uses the reader up, with 350 calls at most. */
    static String at(FoundryNine x) {
        Look look = new Look(x);
        look.now();
        look.asItRunsOn();
        look.ofItsLines();
        look.startedAnew();
        return look.seen.toString();
    }

    private boolean note(Due.Call call) {
        try {
            seen.append(call.answer()).append(' ');
            return true;
        } catch (IllegalStateException | IllegalArgumentException | IndexOutOfBoundsException e) {
            seen.append(e.getClass().getName()).append(' ');
            return false;
        }
    }

    private void now() {
        note(() -> x.digest());
        seen.append(x.meanArrival()).append(' ');
        for (int line = 0; line < 30; line++) {
            int its = line;
            note(() -> x.longestWith(its, 20));
        }
    }

    private void asItRunsOn() {
        for (int wire = 0; wire < WIRES && x.isRunning(); wire++) {
            int its = wire;
            if (note(() -> x.hazardsWith(its, 1))) {
                note(() -> x.hazardsWith(its, 0));
                note(() -> x.set(its, 1));
                note(() -> x.pass(1));
                note(() -> x.digest());
                note(() -> x.set(its, 0));
                note(() -> x.digest());
            }
        }
        note(() -> x.settle());
        note(() -> x.digest());
    }

    private void ofItsLines() {
        for (int line = 0; line < 30; line++) {
            int its = line;
            note(() -> x.setWindow(its, 3, 3));
            note(() -> x.setDelay(its, 7));
        }
        note(() -> x.digest());
    }

    private void startedAnew() {
        note(() -> x.start());
        note(() -> x.settle());
        note(() -> x.digest());
        note(() -> x.input(0));
        note(() -> x.digest());
    }
}
