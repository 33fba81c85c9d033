/** Promise 12. */
@Section("Promise 12: way")
final class Promise12Way {
    @Says({"- `place`: a place on the WAY, from 0", "Returns the WIRE there;"})
    static void placesFrom0(Due due) {
        FoundryNine x = new FoundryNine();
        x.input(3);
        x.gate(1, 9, 3, 0, 0, 2);
        x.gate(1, 0, 9, 0, 0, 2);
        due.is("way(0)", x.way(0), 0);
        due.is("way(1)", x.way(1), 9);
        due.is("way(2), the last", x.way(2), 3);
        due.is("way(3)", x.way(3), -1);
        FoundryNine all = new FoundryNine();
        all.input(0);
        Circuits.chain(all, 0, 23, 1);
        for (int place = 0; place < 24; place++) {
            due.is("all WIRES: way(" + place + ")", all.way(place), 23 - place);
        }
        due.is("all WIRES: way(24)", all.way(24), -1);
        FoundryNine one = new FoundryNine();
        one.register(23, 0, 0, -1, 0);
        due.is("one WIRE: way(0)", one.way(0), 23);
        due.is("one WIRE: way(1)", one.way(1), -1);
    }

    @Says("-1 if there is none.")
    static void noSuchPlace(Due due) {
        FoundryNine none = new FoundryNine();
        FoundryNine all = new FoundryNine();
        all.input(0);
        Circuits.chain(all, 0, 23, 1);
        for (int place : new int[] {-1, 24, -2, 25, -24, 32, 256, Integer.MAX_VALUE, Integer.MIN_VALUE}) {
            due.is("way(" + place + ")", all.way(place), -1);
            due.is("of no LINE: way(" + place + ")", none.way(place), -1);
        }
        for (int place = 0; place < 24; place++) {
            due.is("of no LINE: way(" + place + ")", none.way(place), -1);
        }
    }
}
