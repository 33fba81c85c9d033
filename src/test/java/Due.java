/** Counts the answers that are not the ones that are due, and ends with exit code 1 if there were any. */
final class Due {
    interface Call {
        long answer();
    }

    private int wrong = 0;
    private int asked = 0;

    void is(String call, long got, long want) {
        asked++;
        if (got != want) {
            tell(call + " answered " + got + ", due is " + want);
        }
    }

    void is(String call, double got, double want) {
        asked++;
        if (got != want) {
            tell(call + " answered " + got + ", due is " + want);
        }
    }

    void is(String call, boolean got, boolean want) {
        is(call, got ? 1 : 0, want ? 1 : 0);
    }

    /** The exception must be of that very class, not of one below it: those the machine throws. */
    void isThrown(Class<? extends RuntimeException> want, String text, Call call) {
        asked++;
        try {
            tell(text + " answered " + call.answer() + ", due is " + want.getName());
        } catch (RuntimeException e) {
            if (e.getClass() != want) {
                tell(text + " threw " + e.getClass().getName() + ", due is " + want.getName());
            }
        }
    }

    void isTrue(String text, boolean holds) {
        asked++;
        if (!holds) {
            tell(text);
        }
    }

    private void tell(String text) {
        wrong++;
        if (wrong <= 50) {
            System.out.println(text);
        }
    }

    void end() {
        System.out.println(wrong == 0 ? asked + " answers are as due" : wrong + " of " + asked + " are not as due");
        if (wrong != 0) {
            System.exit(1);
        }
    }
}
