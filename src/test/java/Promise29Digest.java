import java.math.BigInteger;

/** Promise 29. */
@Section("Promise 29: digest")
final class Promise29Digest {
    /** The numbers, kept whole: only at the end it is looked what 64 bits leave of them. */
    private static final class Whole {
        private BigInteger d = BigInteger.valueOf(58070);

        void add(long number) {
            d = d.multiply(BigInteger.valueOf(31)).add(BigInteger.valueOf(number));
        }

        boolean fits() {
            return d.bitLength() < 64;
        }
    }

    /** All numbers in their order; asked of a reader of its own, so that neither is used for too many calls. */
    private static Whole whole(Due.Calls before) {
        FoundryNine x = new FoundryNine();
        before.on(x);
        Whole whole = new Whole();
        int lines = x.lines();
        int flaws = x.flaws();
        whole.add(lines);
        whole.add(flaws);
        whole.add(x.longest());
        whole.add(x.isRunning() ? 1 : 0);
        for (int what = 0; what <= 5; what++) {
            whole.add(x.told(what));
        }
        for (int flaw = 0; flaw < flaws; flaw++) {
            whole.add(x.ofFlaw(flaw, 0));
            whole.add(x.ofFlaw(flaw, 1));
        }
        for (int place = 0; place <= 5; place++) {
            whole.add(x.way(place));
        }
        for (int wire = 0; wire < 24; wire++) {
            whole.add(x.arrival(wire));
            whole.add(x.users(wire));
            for (int what = 0; what <= 3; what++) {
                whole.add(x.ofWire(wire, what));
            }
        }
        for (int line = 0; line < lines; line++) {
            whole.add(x.pending(line));
        }
        int hazards = x.hazards();
        whole.add(hazards);
        for (int hazard = 0; hazard < hazards; hazard++) {
            for (int what = 0; what <= 2; what++) {
                whole.add(x.ofHazard(hazard, what));
            }
        }
        if (x.isRunning()) {
            whole.add(x.settlesIn());
        }
        return whole;
    }

    private static void isDigest(Due due, String text, Due.Calls before) {
        FoundryNine x = new FoundryNine();
        before.on(x);
        long want = whole(before).d.longValue();
        due.is(text, x.digest(), want);
        due.is(text + ", again", x.digest(), want);
    }

    /** A REGISTER that has had a RISE, and behind it so many HAZARDS 4, up to 40. */
    private static void hazardous(FoundryNine x, int hazards) {
        x.input(0);
        x.input(1);
        x.register(20, 0, 1, -1, 0);
        x.setWindow(2, 0, 20);
        x.start();
        x.pass(30);
        x.set(1, 1);
        for (int i = 1; i <= hazards; i++) {
            x.set(0, i % 2);
        }
    }

    @Says({"`long digest()`: Computes a checksum. A number d starts with 58070;", "Returns d."})
    static void ofANewOne(Due due) {
        FoundryNine x = new FoundryNine();
        due.is("new", x.digest(), -7077593119338065503L);
        x.start();
        due.is("STARTED without LINES", x.digest(), 942287543291534016L);
        FoundryNine y = new FoundryNine();
        y.input(0);
        due.is("an INPUT, not STARTED", y.digest(), 3042693628309443934L);
    }

    @Says("for each of the following numbers x, d becomes d * 31 + x, which wraps around as a 64-bit integer")
    static void itWrapsAroundAs64Bits(Due due) {
        due.is("the whole number fits", whole(Circuits::midway).fits(), false);
        isDigest(due, "what 64 bits leave of it", Circuits::midway);
        FoundryNine x = new FoundryNine();
        Circuits.midway(x);
        int negative = 0;
        for (int i = 0; i < 30; i++) {
            x.pass(1);
            negative += x.digest() < 0 ? 1 : 0;
        }
        due.is("some are below 0, some are not", negative > 0 && negative < 30, true);
    }

    @Says("(whether something is so counts 1 or 0):")
    static void whetherItRunsCounts1Or0(Due due) {
        isDigest(due, "it does not run", Circuits::told);
        isDigest(due, "it runs", Circuits::started);
        isDigest(due, "it does not run any more", x -> {
            Circuits.midway(x);
            x.input(9);
        });
    }

    @Says({"lines(), flaws(), longest(), isRunning(), told() of 0 to 5; for each FLAW ofFlaw() of 0 and 1;"
        + " way() of 0 to 5;", "for each WIRE arrival(), users(), ofWire() of 0 to 3; for each LINE pending();"})
    static void withAllFlawsAndLines(Due due) {
        isDigest(due, "none", Circuits::none);
        isDigest(due, "30 LINES, and what is left of a run", Circuits::thirty);
        isDigest(due, "all WIRES driven", Circuits::eachWireDriven);
        for (int lines = 1; lines <= 30; lines++) {
            int most = lines;
            isDigest(due, "FLAWS of " + lines, x -> {
                for (int line = 0; line < most; line++) {
                    x.gate(7, line % 15, line % 15, 15 + line % 9, 15, 0);
                }
            });
        }
        for (int wires = 0; wires < 8; wires++) {
            int most = wires;
            isDigest(due, "a WAY of " + (wires + 1), x -> {
                x.input(0);
                Circuits.chain(x, 0, most, 3);
            });
        }
    }

    @Says("hazards(), for each HAZARD ofHazard() of 0 to 2;")
    static void withAllHazards(Due due) {
        for (int hazards : new int[] {0, 1, 39, 40, 41}) {
            isDigest(due, hazards + " HAZARDS", x -> hazardous(x, hazards));
        }
    }

    @Says("settlesIn(), if it runs.")
    static void settlesInIfItRuns(Due due) {
        Due.Calls told = x -> {
            x.input(0);
            Circuits.buzzers(x, 0, 1, 3, 1);
        };
        Due.Calls started = x -> {
            told.on(x);
            x.start();
        };
        Due.Calls buzzing = x -> {
            started.on(x);
            x.settle();
            x.set(0, 1);
        };
        isDigest(due, "it does not run", told);
        isDigest(due, "it runs", started);
        isDigest(due, "it would be RESTLESS", buzzing);
        isDigest(due, "it does not run any more", x -> {
            buzzing.on(x);
            x.register(9, 0, 0, -1, 0);
        });
        FoundryNine x = new FoundryNine();
        buzzing.on(x);
        due.is("settlesIn(), RESTLESS", x.settlesIn(), -1);
        x.digest();
        due.is("but it was not", x.told(4), 0);
    }
}
