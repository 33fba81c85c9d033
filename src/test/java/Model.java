import java.util.ArrayList;
import java.util.Arrays;
import java.util.List;
import java.util.TreeSet;

/**
 * A second reader of circuits, written from the document with lists, sets and recursion, so that it
 * shares no way of working with FoundryNine. It is told only what FoundryNine takes: its arguments are right.
 */
final class Model {
    static final class Line {
        final int number;
        final char sort;
        final int kind;
        final int wire;
        final int[] pins;
        int delay;
        int setup;
        int hold;

        Line(int number, char sort, int kind, int wire, int delay, int... pins) {
            this.number = number;
            this.sort = sort;
            this.kind = kind;
            this.wire = wire;
            this.delay = delay;
            this.pins = pins;
        }

        boolean uses(int wire) {
            for (int pin : pins) {
                if (pin == wire) {
                    return true;
                }
            }
            return false;
        }
    }

    /** Something pending; it never changes. */
    record Pending(Line line, int value, int time) {
    }

    record Hazard(int code, int wire, int time) {
    }

    final List<Line> lines = new ArrayList<>();
    boolean runs = false;
    int time = 0;
    int swallowed = 0;
    int restless = 0;
    int changes = 0;
    int[] value = filled(2);
    int[] changed = filled(-1);
    int[] count = filled(0);
    int[] from = filled(2);
    int[] rises = new int[30];
    /** In the order in which they were made so. */
    List<Pending> pending = new ArrayList<>();
    List<Hazard> hazards = new ArrayList<>();

    private static int[] filled(int with) {
        int[] row = new int[24];
        Arrays.fill(row, with);
        return row;
    }

    Model copy() {
        Model m = new Model();
        m.lines.addAll(lines);
        m.runs = runs;
        m.time = time;
        m.swallowed = swallowed;
        m.restless = restless;
        m.changes = changes;
        m.value = value.clone();
        m.changed = changed.clone();
        m.count = count.clone();
        m.from = from.clone();
        m.rises = rises.clone();
        m.pending = new ArrayList<>(pending);
        m.hazards = new ArrayList<>(hazards);
        return m;
    }

    int add(char sort, int kind, int wire, int delay, int... pins) {
        lines.add(new Line(lines.size(), sort, kind, wire, delay, pins));
        runs = false;
        return lines.size() - 1;
    }

    // ---- flaws, and ways

    private List<Line> drivers(int wire) {
        List<Line> found = new ArrayList<>();
        for (Line line : lines) {
            if (line.wire == wire) {
                found.add(line);
            }
        }
        return found;
    }

    int users(int wire) {
        int n = 0;
        for (Line line : lines) {
            n += line.uses(wire) ? 1 : 0;
        }
        return n;
    }

    boolean inRing(Line gate) {
        TreeSet<Integer> seen = new TreeSet<>();
        walk(gate.wire, seen);
        for (int pin : gate.pins) {
            if (seen.contains(pin)) {
                return true;
            }
        }
        return false;
    }

    private void walk(int wire, TreeSet<Integer> seen) {
        if (seen.add(wire)) {
            for (Line line : lines) {
                if (line.sort == 'g' && line.uses(wire)) {
                    walk(line.wire, seen);
                }
            }
        }
    }

    List<int[]> flaws() {
        List<int[]> found = new ArrayList<>();
        for (int wire = 0; wire < 24; wire++) {
            int n = drivers(wire).size();
            if (n >= 2) {
                found.add(new int[] {1, wire});
            }
            if (n == 0 && users(wire) > 0) {
                found.add(new int[] {2, wire});
            }
        }
        for (Line line : lines) {
            if (line.sort == 'g' && inRing(line)) {
                found.add(new int[] {3, line.number});
            }
        }
        return found;
    }

    boolean mayRun() {
        for (int[] flaw : flaws()) {
            if (flaw[0] != 3) {
                return false;
            }
        }
        return true;
    }

    int arrival(int wire) {
        List<Line> by = drivers(wire);
        if (by.isEmpty() || by.get(0).sort == 'i') {
            return 0;
        }
        Line line = by.get(0);
        if (line.sort == 'r') {
            return line.delay;
        }
        if (inRing(line)) {
            return -1;
        }
        int most = 0;
        for (int pin : line.pins) {
            int at = arrival(pin);
            if (at == -1) {
                return -1;
            }
            most = Math.max(most, at);
        }
        return most + line.delay;
    }

    int longest() {
        int most = 0;
        for (int wire = 0; wire < 24; wire++) {
            most = Math.max(most, arrival(wire));
        }
        return most;
    }

    List<Integer> way() {
        List<Integer> way = new ArrayList<>();
        int best = -1;
        for (int wire = 23; wire >= 0; wire--) {
            if (!drivers(wire).isEmpty() && arrival(wire) != -1 && (best == -1 || arrival(wire) >= arrival(best))) {
                best = wire;
            }
        }
        if (best == -1) {
            return way;
        }
        way.add(best);
        while (!drivers(best).isEmpty() && drivers(best).get(0).sort == 'g') {
            int next = -1;
            for (int pin : drivers(best).get(0).pins) {
                if (next == -1 || arrival(pin) > arrival(next)) {
                    next = pin;
                }
            }
            best = next;
            way.add(best);
        }
        return way;
    }

    int wayAt(int place) {
        List<Integer> way = way();
        return place < 0 || place >= way.size() ? -1 : way.get(place);
    }

    double meanArrival() {
        double sum = 0;
        int n = 0;
        for (int wire = 0; wire < 24; wire++) {
            if (!drivers(wire).isEmpty() && arrival(wire) >= 0) {
                sum += arrival(wire);
                n++;
            }
        }
        return n == 0 ? 0 : sum / n;
    }

    // ---- running

    private void begin() {
        from = value.clone();
        count = filled(0);
    }

    int start() {
        runs = true;
        value = filled(2);
        changed = filled(-1);
        Arrays.fill(rises, -1);
        time = 0;
        swallowed = 0;
        restless = 0;
        changes = 0;
        pending.clear();
        hazards.clear();
        begin();
        for (Line line : lines) {
            if (line.sort == 'i') {
                change(line.wire, 0);
            }
        }
        return pending.size();
    }

    int set(int wire, int to) {
        int before = value[wire];
        begin();
        change(wire, to);
        return before;
    }

    int pass(int by) {
        int before = changes;
        int until = time + by;
        come(until);
        time = until;
        return changes - before;
    }

    int settle() {
        int before = changes;
        come(Integer.MAX_VALUE);
        for (int wire = 0; wire < 24; wire++) {
            List<Line> by = drivers(wire);
            if (by.size() == 1 && by.get(0).sort == 'g' && from[wire] != 2 && value[wire] != 2) {
                if (from[wire] == value[wire]) {
                    if (count[wire] >= 1) {
                        hazard(1, wire);
                    }
                } else if (count[wire] >= 3) {
                    hazard(2, wire);
                }
            }
        }
        begin();
        return changes - before;
    }

    private void come(int until) {
        int came = 0;
        while (true) {
            Pending next = next();
            if (next == null || next.time > until) {
                return;
            }
            if (came == 300) {
                restless++;
                pending.clear();
                return;
            }
            came++;
            pending.remove(next);
            time = next.time;
            change(next.line.wire, next.value);
        }
    }

    Pending next() {
        Pending next = null;
        for (Pending p : pending) {
            if (next == null || p.time < next.time) {
                next = p;
            }
        }
        return next;
    }

    Pending of(Line line) {
        for (Pending p : pending) {
            if (p.line == line) {
                return p;
            }
        }
        return null;
    }

    int pendingOf(int line) {
        Pending p = of(lines.get(line));
        return p == null ? -1 : p.value;
    }

    private void change(int wire, int to) {
        int was = value[wire];
        if (was == to) {
            return;
        }
        value[wire] = to;
        changed[wire] = time;
        count[wire]++;
        changes++;
        for (Line line : lines) {
            if (line.uses(wire)) {
                if (line.sort == 'g') {
                    askGate(line);
                } else {
                    askRegister(line, wire, was);
                }
            }
        }
    }

    private void askGate(Line line) {
        int v = work(line);
        Pending p = of(line);
        if (p != null && p.value != v) {
            pending.remove(p);
            swallowed++;
            p = null;
        }
        if (p == null && v != value[line.wire]) {
            pending.add(new Pending(line, v, time + line.delay));
        }
    }

    /** By trying 0 and 1 for each pin that is not known: what all tries agree on is known. */
    private int work(Line line) {
        int[] v = new int[line.pins.length];
        for (int i = 0; i < v.length; i++) {
            v[i] = value[line.pins[i]];
        }
        if (line.kind == 1) {
            return v[0];
        }
        int seen = 0;
        for (int tries = 0; tries < 1 << v.length; tries++) {
            boolean[] t = new boolean[v.length];
            boolean fits = true;
            for (int i = 0; i < v.length; i++) {
                t[i] = (tries >> i & 1) == 1;
                fits &= v[i] == 2 || v[i] == (t[i] ? 1 : 0);
            }
            if (fits) {
                seen |= work(line.kind, t) ? 2 : 1;
            }
        }
        return seen == 1 ? 0 : seen == 2 ? 1 : 2;
    }

    private static boolean work(int kind, boolean[] t) {
        return switch (kind) {
            case 0 -> !t[0];
            case 2 -> t[0] && t[1];
            case 3 -> t[0] || t[1];
            case 4 -> t[0] ^ t[1];
            case 5 -> !(t[0] && t[1]);
            case 6 -> !(t[0] || t[1]);
            default -> t[0] ? t[1] : t[2];
        };
    }

    private void askRegister(Line line, int wire, int was) {
        int data = line.pins[0];
        int clock = line.pins[1];
        boolean hasReset = line.pins.length == 3;
        if (hasReset && line.pins[2] == wire && value[wire] == 1) {
            give(line, 0);
        }
        if (clock == wire && was == 0 && value[wire] == 1 && (!hasReset || value[line.pins[2]] == 0)) {
            rises[line.number] = time;
            int d = value[data];
            if (changed[data] >= 0 && changed[data] > time - line.setup) {
                hazard(3, line.wire);
                d = 2;
            }
            give(line, d);
        }
        if (data == wire && rises[line.number] >= 0 && rises[line.number] > time - line.hold) {
            hazard(4, line.wire);
            give(line, 2);
        }
    }

    private void give(Line line, int v) {
        pending.remove(of(line));
        pending.add(new Pending(line, v, time + line.delay));
    }

    private void hazard(int code, int wire) {
        if (hazards.size() < 40) {
            hazards.add(new Hazard(code, wire, time));
        }
    }

    int told(int what) {
        return switch (what) {
            case 0 -> time;
            case 1 -> pending.size();
            case 2 -> next() == null ? -1 : next().time;
            case 3 -> swallowed;
            case 4 -> restless;
            default -> changes;
        };
    }

    int ofWire(int wire, int what) {
        return new int[] {value[wire], changed[wire], count[wire], from[wire]}[what];
    }

    int ofHazard(int hazard, int what) {
        Hazard h = hazards.get(hazard);
        return new int[] {h.code, h.wire, h.time}[what];
    }

    // ---- what would be

    int wouldBe(int wire, int to, int other) {
        Model m = copy();
        m.set(wire, to);
        m.settle();
        return m.value[other];
    }

    int hazardsWith(int wire, int to) {
        Model m = copy();
        m.set(wire, to);
        m.settle();
        return m.hazards.size() - hazards.size();
    }

    int settlesIn() {
        Model m = copy();
        m.settle();
        return m.restless > restless ? -1 : m.time - time;
    }

    int longestWith(int line, int delay) {
        int before = lines.get(line).delay;
        lines.get(line).delay = delay;
        int longest = longest();
        lines.get(line).delay = before;
        return longest;
    }

    long digest() {
        List<Long> x = new ArrayList<>();
        x.add((long) lines.size());
        x.add((long) flaws().size());
        x.add((long) longest());
        x.add(runs ? 1L : 0L);
        for (int what = 0; what < 6; what++) {
            x.add((long) told(what));
        }
        for (int[] flaw : flaws()) {
            x.add((long) flaw[0]);
            x.add((long) flaw[1]);
        }
        for (int place = 0; place < 6; place++) {
            x.add((long) wayAt(place));
        }
        for (int wire = 0; wire < 24; wire++) {
            x.add((long) arrival(wire));
            x.add((long) users(wire));
            for (int what = 0; what < 4; what++) {
                x.add((long) ofWire(wire, what));
            }
        }
        for (int line = 0; line < lines.size(); line++) {
            x.add((long) pendingOf(line));
        }
        x.add((long) hazards.size());
        for (Hazard h : hazards) {
            x.add((long) h.code);
            x.add((long) h.wire);
            x.add((long) h.time);
        }
        if (runs) {
            x.add((long) settlesIn());
        }
        long d = 58070;
        for (long n : x) {
            d = d * 31 + n;
        }
        return d;
    }
}
