/** What stands ahead of the face. */
@Section("What it is")
final class Term0Calls {
    /** Each of the rounds of three calls takes 6000, with 302 CHANGES, and is RESTLESS once. */
    private static FoundryNine behind511Calls() {
        FoundryNine x = new FoundryNine();
        x.input(0);
        Circuits.buzzers(x, 0, 1, 20, 1);
        x.start();
        x.settle();
        for (int round = 0; round < 169; round++) {
            x.set(0, 1);
            x.settle();
            x.set(0, 0);
        }
        return x;
    }

    @Says("An object is used for at most 512 calls after it has been made; what later calls answer is free.")
    static void the512thCallAnswersAsAnyOther(Due due) {
        int[] want = {20 + 169 * 6000, 0, -1, 0, 169, 2 + 169 * 302};
        for (int what = 0; what <= 5; what++) {
            due.is("told(" + what + ") as the 512th", behind511Calls().told(what), want[what]);
        }
        due.is("ofWire(1, 1) as the 512th", behind511Calls().ofWire(1, 1), 20 + 169 * 6000);
        due.is("settle() as the 512th", behind511Calls().settle(), 0);
        due.is("wouldBe() as the 512th", behind511Calls().wouldBe(0, 1, 0), 1);
        due.is("settlesIn() as the 512th", behind511Calls().settlesIn(), 0);
        due.is("hazards() as the 512th", behind511Calls().hazards(), 40);
        due.isThrown(Due.INDEX, "input(24) as the 512th", () -> behind511Calls().input(24));
        due.is("input(2) as the 512th", behind511Calls().input(2), 2);
    }

    @Says("An object is used for at most 512 calls after it has been made;")
    static void theGreatestTimeByPassing(Due due) {
        FoundryNine x = new FoundryNine();
        x.start();
        for (int i = 0; i < 510; i++) {
            x.pass(100);
        }
        due.is("the TIME", x.told(0), 51000);
    }

    @Says("An object is used for at most 512 calls after it has been made;")
    static void asManySwallowedAsThereMayBe(Due due) {
        FoundryNine x = new FoundryNine();
        x.input(0);
        for (int wire = 1; wire < 24; wire++) {
            x.gate(1, wire, 0, 0, 0, 20);
        }
        x.start();
        x.settle();
        for (int i = 1; i <= 484; i++) {
            x.set(0, i % 2);
        }
        due.is("SWALLOWED", x.told(3), 242 * 23);
    }
}
