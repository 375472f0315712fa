import java.util.ArrayDeque;
import java.util.ArrayList;
import java.util.Comparator;
import java.util.Deque;
import java.util.List;
import java.util.regex.Pattern;

/** The document written a second time, as plainly as the Java library allows, to compare with. */
final class Model {
    static final class Rider {
        int area;
        int zone;
        int tips;
        Load aim;

        Rider(int area, int zone) {
            this.area = area;
            this.zone = zone;
        }

        boolean has(int z) {
            return (area & (1 << z)) != 0;
        }
    }

    static final class Load {
        int number;
        int origin;
        int destination;
        int cutOff;
        int tip;
        int state;
        int zone;
        int at = -1;
        int paid;
        List<Rider> legs = new ArrayList<>();
        int[] shares = new int[6];

        long legsOf(Rider r) {
            return legs.stream().filter(l -> l == r).count();
        }
    }

    int time;
    int grace = 10;
    int paid;
    int handovers;
    int moves;
    List<Rider> riders = new ArrayList<>();
    List<Load> loads = new ArrayList<>();

    StringBuilder text = new StringBuilder();
    Deque<Model> saved = new ArrayDeque<>();

    /** A copy of all but the text and the saved states. */
    Model copy() {
        Model m = new Model();
        m.time = time;
        m.grace = grace;
        m.paid = paid;
        m.handovers = handovers;
        m.moves = moves;
        for (Rider r : riders) {
            Rider twin = new Rider(r.area, r.zone);
            twin.tips = r.tips;
            m.riders.add(twin);
        }
        for (Load l : loads) {
            Load twin = new Load();
            twin.number = l.number;
            twin.origin = l.origin;
            twin.destination = l.destination;
            twin.cutOff = l.cutOff;
            twin.tip = l.tip;
            twin.state = l.state;
            twin.zone = l.zone;
            twin.at = l.at;
            twin.paid = l.paid;
            twin.shares = l.shares.clone();
            for (Rider r : l.legs) {
                twin.legs.add(m.riders.get(riders.indexOf(r)));
            }
            m.loads.add(twin);
        }
        for (int c = 0; c < riders.size(); c++) {
            Load aim = riders.get(c).aim;
            m.riders.get(c).aim = aim == null ? null : m.loads.get(aim.number);
        }
        return m;
    }

    void save() {
        saved.addLast(copy());
        if (saved.size() > 4) {
            saved.removeFirst();
        }
    }

    static int next(int from, int to) {
        if (from % 4 != to % 4) {
            return from + Integer.signum(to % 4 - from % 4);
        }
        return from + 4 * Integer.signum(to / 4 - from / 4);
    }

    static List<Integer> way(int from, int to) {
        List<Integer> zones = new ArrayList<>();
        zones.add(from);
        for (int zone = from; zone != to;) {
            zone = next(zone, to);
            zones.add(zone);
        }
        return zones;
    }

    static boolean suits(Load l, Rider r) {
        return r.has(l.zone) && r.has(next(l.zone, l.destination));
    }

    boolean carries(Rider r) {
        return r.aim != null && r.aim.state == 1;
    }

    void tick() {
        time++;
        for (Rider r : riders) {
            if (carries(r)) {
                Load l = r.aim;
                int step = next(r.zone, l.destination);
                if (r.has(step)) {
                    r.zone = step;
                    l.zone = step;
                    moves++;
                    l.legs.add(r);
                    if (step == l.destination) {
                        deliver(l);
                        r.aim = null;
                    }
                } else {
                    l.state = 0;
                    r.aim = null;
                    handovers++;
                }
            } else if (r.aim != null && r.aim.state == 0) {
                if (r.zone == r.aim.zone) {
                    r.aim.state = 1;
                } else {
                    r.zone = next(r.zone, r.aim.zone);
                    moves++;
                }
            } else {
                r.aim = loads.stream()
                        .filter(l -> l.state == 0 && suits(l, r))
                        .filter(l -> riders.stream().noneMatch(o -> o != r && o.aim == l))
                        .min(Comparator.<Load>comparingInt(l -> l.cutOff).thenComparingInt(l -> l.number))
                        .orElse(null);
            }
        }
        for (Load l : loads) {
            if (l.state < 2 && l.cutOff + grace < time) {
                l.state = 3;
                riders.stream().filter(r -> r.aim == l).forEach(r -> r.aim = null);
            }
        }
    }

    void deliver(Load l) {
        l.state = 2;
        l.at = time;
        l.paid = time <= l.cutOff ? l.tip : l.tip / 2;
        paid += l.paid;
        List<Integer> order = new ArrayList<>();
        int rest = l.paid;
        int all = l.legs.size();
        int[] remainders = new int[6];
        for (int c = 0; c < riders.size(); c++) {
            int part = (int) (l.paid * l.legsOf(riders.get(c)));
            l.shares[c] = part / all;
            remainders[c] = part % all;
            rest -= part / all;
            order.add(c);
        }
        order.sort(Comparator.comparingInt(c -> -remainders[c]));
        for (int k = 0; k < rest; k++) {
            l.shares[order.get(k)]++;
        }
        for (int c = 0; c < riders.size(); c++) {
            riders.get(c).tips += l.shares[c];
        }
    }

    int count(int state) {
        return (int) loads.stream().filter(l -> l.state == state).count();
    }

    int paidAfter(int ticks) {
        int before = paid;
        for (int k = 0; k < ticks; k++) {
            tick();
        }
        return paid - before;
    }

    static void require(boolean holds, RuntimeException otherwise) {
        if (!holds) {
            throw otherwise;
        }
    }

    static boolean in(int value, int least, int most) {
        return value >= least && value <= most;
    }

    Rider rider(int c) {
        require(in(c, 0, riders.size() - 1), new IndexOutOfBoundsException());
        return riders.get(c);
    }

    Load load(int p) {
        require(in(p, 0, loads.size() - 1), new IndexOutOfBoundsException());
        return loads.get(p);
    }

    int addCourier(int area, int zone) {
        require(in(area, 0, 65535) && in(zone, 0, 15), new IllegalArgumentException());
        require(riders.size() < 6, new IllegalStateException());
        save();
        riders.add(new Rider(area, zone));
        return riders.size() - 1;
    }

    int setArea(int courier, int area) {
        Rider r = rider(courier);
        require(in(area, 0, 65535), new IllegalArgumentException());
        save();
        int old = r.area;
        r.area = area;
        return old;
    }

    void add(int origin, int destination, int cutOff, int tip) {
        Load l = new Load();
        l.number = loads.size();
        l.origin = origin;
        l.zone = origin;
        l.destination = destination;
        l.cutOff = cutOff;
        l.tip = tip;
        loads.add(l);
    }

    int give(int origin, int destination, int cutOff, int tip) {
        require(in(origin, 0, 15) && in(destination, 0, 15) && origin != destination
                && in(cutOff, 1, 999) && in(tip, 0, 1000), new IllegalArgumentException());
        require(loads.size() < 24, new IllegalStateException());
        save();
        add(origin, destination, cutOff, tip);
        return loads.size() - 1;
    }

    int setGrace(int value) {
        require(in(value, 0, 100), new IllegalArgumentException());
        save();
        int old = grace;
        grace = value;
        return old;
    }

    static int lay(Rider r) {
        int old = r.aim == null ? -1 : r.aim.number;
        if (r.aim != null) {
            r.aim.state = 0;
        }
        r.aim = null;
        return old;
    }

    int drop(int courier) {
        Rider r = rider(courier);
        save();
        return lay(r);
    }

    int run(int ticks) {
        require(in(ticks, 0, 200), new IllegalArgumentException());
        require(time + ticks <= 2000, new IllegalStateException());
        save();
        int before = count(2);
        paidAfter(ticks);
        return count(2) - before;
    }

    int value(int what) {
        require(in(what, 0, 10), new IllegalArgumentException());
        return new int[] {time, riders.size(), loads.size(), grace, count(0), count(1), count(2), count(3),
            paid, handovers, moves}[what];
    }

    int courier(int courier, int what) {
        Rider r = rider(courier);
        require(in(what, 0, 5), new IllegalArgumentException());
        int doing = r.aim == null ? 0 : r.aim.state == 0 ? 1 : 2;
        int legs = (int) loads.stream().mapToLong(l -> l.legsOf(r)).sum();
        return new int[] {r.area, r.zone, r.tips, doing, r.aim == null ? -1 : r.aim.number, legs}[what];
    }

    int parcel(int parcel, int what) {
        Load l = load(parcel);
        require(in(what, 0, 8), new IllegalArgumentException());
        return new int[] {l.origin, l.destination, l.cutOff, l.tip, l.state, l.zone, l.at, l.paid,
            l.legs.size()}[what];
    }

    int legs(int parcel, int courier, boolean share) {
        Load l = load(parcel);
        Rider r = rider(courier);
        return share ? l.shares[courier] : (int) l.legsOf(r);
    }

    int distance(int from, int to) {
        require(in(from, 0, 15) && in(to, 0, 15), new IndexOutOfBoundsException());
        return way(from, to).size() - 1;
    }

    int suited(int parcel) {
        Load l = load(parcel);
        int set = 0;
        for (int c = 0; c < riders.size(); c++) {
            set |= l.state < 2 && suits(l, riders.get(c)) ? 1 << c : 0;
        }
        return set;
    }

    /** least[k][c]: the least couriers for the first k legs, c carrying the last one. */
    int leastRelay(int parcel) {
        Load l = load(parcel);
        List<Integer> zones = way(l.origin, l.destination);
        int[] least = new int[riders.size()];
        int all = 0;
        for (int k = 1; k < zones.size(); k++) {
            int[] then = new int[riders.size()];
            int best = 1000;
            for (int c = 0; c < riders.size(); c++) {
                Rider r = riders.get(c);
                int same = k == 1 ? 1000 : least[c];
                then[c] = r.has(zones.get(k - 1)) && r.has(zones.get(k)) ? Math.min(same, all + 1) : 1000;
                best = Math.min(best, then[c]);
            }
            least = then;
            all = best;
        }
        return all >= 1000 ? -1 : all;
    }

    double punctuality() {
        double inTime = loads.stream().filter(l -> l.state == 2 && l.at <= l.cutOff).count();
        double ended = loads.stream().filter(l -> l.state >= 2).count();
        return ended == 0.0 ? 1.0 : inTime / ended;
    }

    int paidIn(int ticks) {
        require(in(ticks, 0, 200), new IllegalArgumentException());
        return copy().paidAfter(ticks);
    }

    int bestZone(int courier, int ticks) {
        Rider r = rider(courier);
        int most = paidIn(ticks);
        int best = -1;
        for (int z = 0; z < 16; z++) {
            if (!r.has(z)) {
                Model m = copy();
                m.riders.get(courier).area += 1 << z;
                int then = m.paidAfter(ticks);
                best = then > most ? z : best;
                most = Math.max(most, then);
            }
        }
        return best;
    }

    int worth(int courier, int ticks) {
        rider(courier);
        int with = paidIn(ticks);
        Model m = copy();
        lay(m.riders.get(courier));
        m.riders.get(courier).area = 0;
        return with - m.paidAfter(ticks);
    }

    int doneIn() {
        Model m = copy();
        for (int k = 0; k <= 1200; k++) {
            if (m.count(0) + m.count(1) == 0) {
                return k;
            }
            m.tick();
        }
        return -1;
    }

    int append(int value) {
        require(in(value, 0, 127), new IllegalArgumentException());
        require(text.length() < 150, new IllegalStateException());
        text.append((char) value);
        return text.length();
    }

    int clearText() {
        int old = text.length();
        text.setLength(0);
        return old;
    }

    private static final String[] DIGITS = {"[0-9]{1,2}", "[0-9]{1,2}", "[0-9]{1,3}", "[0-9]{1,4}"};

    /** The digits with which the text goes on at a place, at most so many; null if there are none. */
    private String digits(int at, int field) {
        java.util.regex.Matcher m = Pattern.compile(DIGITS[field]).matcher(text);
        return m.region(at, text.length()).lookingAt() ? m.group() : null;
    }

    int parse() {
        List<int[]> items = new ArrayList<>();
        int at = 0;
        while (at < text.length()) {
            if (loads.size() + items.size() == 24) {
                return -10 - at;
            }
            int[] item = new int[4];
            for (int field = 0; field < 4; field++) {
                String digits = digits(at, field);
                if (digits == null) {
                    return -10 - at;
                }
                int behind = at + digits.length();
                boolean more = behind < text.length();
                if (more && Character.isDigit(text.charAt(behind))) {
                    return -10 - behind;
                }
                item[field] = Integer.parseInt(digits);
                boolean good = in(item[field], field == 2 ? 1 : 0, field < 2 ? 15 : field == 2 ? 999 : 1000);
                if (!good || field == 1 && item[0] == item[1]) {
                    return -10 - at;
                }
                if (!more || text.charAt(behind) != ",,,;".charAt(field)) {
                    return -10 - behind;
                }
                at = behind + 1;
            }
            items.add(item);
        }
        save();
        for (int[] item : items) {
            add(item[0], item[1], item[2], item[3]);
        }
        return loads.size();
    }

    int undo() {
        require(!saved.isEmpty(), new IllegalStateException());
        Model m = saved.removeLast();
        time = m.time;
        grace = m.grace;
        paid = m.paid;
        handovers = m.handovers;
        moves = m.moves;
        riders = m.riders;
        loads = m.loads;
        return saved.size();
    }

    long digest() {
        List<Integer> values = new ArrayList<>();
        values.add(text.length());
        for (int what = 0; what <= 10; what++) {
            values.add(value(what));
        }
        for (int c = 0; c < riders.size(); c++) {
            for (int what = 0; what <= 5; what++) {
                values.add(courier(c, what));
            }
        }
        for (int p = 0; p < loads.size(); p++) {
            for (int what = 0; what <= 8; what++) {
                values.add(parcel(p, what));
            }
            for (int c = 0; c < riders.size(); c++) {
                values.add(legs(p, c, false));
                values.add(legs(p, c, true));
            }
        }
        values.add(saved.size());
        long h = 3313;
        for (int v : values) {
            h = 31 * h + v;
        }
        return h;
    }
}
