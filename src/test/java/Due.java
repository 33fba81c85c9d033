/** Counts the answers that are not the ones that are due, and ends with exit code 1 if there were any. */
final class Due {
    static final Class<IllegalArgumentException> ARGUMENT = IllegalArgumentException.class;
    static final Class<IndexOutOfBoundsException> INDEX = IndexOutOfBoundsException.class;
    static final Class<IllegalStateException> STATE = IllegalStateException.class;

    interface Call {
        long answer();
    }

    interface Calls {
        void on(FoundryNine x);
    }

    interface CallOn {
        long answer(FoundryNine x);
    }

    private int wrong = 0;
    private int asked = 0;
    private String test = "";

    /** From now on what is told bears the name of that test. */
    void begin(String name) {
        test = name + ": ";
    }

    int asked() {
        return asked;
    }

    void is(String call, long got, long want) {
        asked++;
        if (got != want) {
            tell(call + " answered " + got + ", due is " + want);
        }
    }

    void is(String call, double got, double want) {
        asked++;
        if (got != want) {
            tell(call + " answered " + got + ", due is " + want);
        }
    }

    void is(String call, boolean got, boolean want) {
        is(call, got ? 1 : 0, want ? 1 : 0);
    }

    /** The exception must be of that very class, not of one below it: those the machine throws. */
    void isThrown(Class<? extends RuntimeException> want, String text, Call call) {
        asked++;
        try {
            tell(text + " answered " + call.answer() + ", due is " + want.getName());
        } catch (RuntimeException e) {
            if (e.getClass() != want) {
                tell(text + " threw " + e.getClass().getName() + ", due is " + want.getName());
            }
        }
    }

    /** The call behind those is refused so, and a twin that was not asked for it is, and goes on, as this one. */
    void isRefused(Class<? extends RuntimeException> want, String text, Calls before, CallOn call) {
        FoundryNine x = new FoundryNine();
        FoundryNine twin = new FoundryNine();
        before.on(x);
        before.on(twin);
        isThrown(want, text, () -> call.answer(x));
        isTrue(text + " was refused, but changed something", Look.at(x).equals(Look.at(twin)));
    }

    /** The call behind those changes nothing: a twin that was not asked for it is, and goes on, as this one. */
    void changesNothing(String text, Calls before, CallOn call) {
        FoundryNine x = new FoundryNine();
        FoundryNine twin = new FoundryNine();
        before.on(x);
        before.on(twin);
        call.answer(x);
        isTrue(text + " changed something", Look.at(x).equals(Look.at(twin)));
    }

    void isTrue(String text, boolean holds) {
        asked++;
        if (!holds) {
            tell(text);
        }
    }

    private void tell(String text) {
        wrong++;
        if (wrong <= 50) {
            System.out.println(test + text);
        }
    }

    void end() {
        System.out.println(wrong == 0 ? asked + " answers are as due" : wrong + " of " + asked + " are not as due");
        if (wrong != 0) {
            System.exit(1);
        }
    }
}
