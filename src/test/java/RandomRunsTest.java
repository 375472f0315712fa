import java.util.Random;

/** Runs of 512 calls, drawn with fixed seeds, on the program and on the model: each answer is compared. */
public final class RandomRunsTest {
    private static final int RUNS = 600;
    private static final int CALLS = 512;
    private static final int[] EDGES = {Integer.MIN_VALUE, -1, 0, 1, 5, 6, 8, 9, 10, 11, 15, 16, 23, 24, 100,
        101, 127, 128, 200, 201, 999, 1000, 1001, 65535, 65536, Integer.MAX_VALUE};

    private final Random random;
    private final CourierRelay x = new CourierRelay();
    private final Model m = new Model();
    private final String name;
    private int calls;
    /** How wild the arguments are, how long the ticks, how wide the areas: a taste for each run. */
    private final int wild;
    private final int stride;
    private final int wide;

    private RandomRunsTest(int run) {
        random = new Random(7919L * run);
        name = "run " + run + ", call ";
        wild = run % 5 == 0 ? 3 : 40;
        stride = run % 3 == 0 ? 3 : run % 3 == 1 ? 12 : 200;
        wide = 1 + run % 3;
    }

    public static void main(String[] args) {
        for (int run = 1; run <= RUNS; run++) {
            new RandomRunsTest(run).play();
        }
        Check.end();
    }

    private int below(int bound) {
        return random.nextInt(bound);
    }

    /** Mostly a right argument, at times one at an edge. */
    private int pick(int least, int most) {
        return below(wild) == 0 ? EDGES[below(EDGES.length)] : least + below(most - least + 1);
    }

    private int someArea() {
        int area = below(65536);
        for (int k = 1; k < wide; k++) {
            area |= below(65536);
        }
        return below(wild) == 0 ? EDGES[below(EDGES.length)] : area;
    }

    private int someCutOff() {
        int soon = m.time + 1 + below(60);
        return below(4) == 0 ? pick(1, 999) : Math.min(999, soon);
    }

    private int someCourier() {
        return pick(0, Math.max(0, m.riders.size() - 1));
    }

    private int someParcel() {
        return pick(0, Math.max(0, m.loads.size() - 1));
    }

    private void compare(String call, Check.Call program, Check.Call model) {
        calls++;
        Check.is(name + calls + ": " + call, Check.outcome(program), Check.outcome(model));
    }

    private void play() {
        while (calls < CALLS - 200) {
            int kind = below(100);
            if (kind < 45) {
                change();
            } else if (kind < 70) {
                ask();
            } else if (kind < 85) {
                askWhatIf();
            } else if (kind < 92) {
                write();
            } else {
                compare("digest()", x::digest, m::digest);
            }
        }
        while (calls <= CALLS - 6) {
            ask();
            change();
            compare("digest()", x::digest, m::digest);
        }
    }

    private void change() {
        int a = someArea();
        int c = someCourier();
        int z = pick(0, 15);
        int to = pick(0, 15);
        int cutOff = someCutOff();
        int tip = pick(0, below(3) == 0 ? 1000 : 30);
        int ticks = pick(0, stride);
        int grace = pick(0, below(2) == 0 ? 100 : 5);
        switch (below(12)) {
            case 0 -> compare("addCourier(" + a + ", " + z + ")", () -> x.addCourier(a, z), () -> m.addCourier(a, z));
            case 1 -> compare("setArea(" + c + ", " + a + ")", () -> x.setArea(c, a), () -> m.setArea(c, a));
            case 2, 3, 4 -> compare("give(" + z + ", " + to + ", " + cutOff + ", " + tip + ")",
                    () -> x.give(z, to, cutOff, tip), () -> m.give(z, to, cutOff, tip));
            case 5 -> compare("setGrace(" + grace + ")", () -> x.setGrace(grace), () -> m.setGrace(grace));
            case 6 -> compare("drop(" + c + ")", () -> x.drop(c), () -> m.drop(c));
            case 7 -> {
                for (int k = below(4); k >= 0; k--) {
                    compare("undo()", x::undo, m::undo);
                }
            }
            default -> compare("run(" + ticks + ")", () -> x.run(ticks), () -> m.run(ticks));
        }
    }

    private void ask() {
        int c = someCourier();
        int p = someParcel();
        int what = pick(0, 10);
        boolean share = random.nextBoolean();
        int from = pick(0, 15);
        int to = pick(0, 15);
        switch (below(8)) {
            case 0 -> compare("value(" + what + ")", () -> x.value(what), () -> m.value(what));
            case 1 -> compare("courier(" + c + ", " + what + ")", () -> x.courier(c, what), () -> m.courier(c, what));
            case 2 -> compare("parcel(" + p + ", " + what + ")", () -> x.parcel(p, what), () -> m.parcel(p, what));
            case 3 -> compare("legs(" + p + ", " + c + ", " + share + ")",
                    () -> x.legs(p, c, share), () -> m.legs(p, c, share));
            case 4 -> compare("distance(" + from + ", " + to + ")", () -> x.distance(from, to), () -> m.distance(from, to));
            case 5 -> compare("suited(" + p + ")", () -> x.suited(p), () -> m.suited(p));
            case 6 -> compare("leastRelay(" + p + ")", () -> x.leastRelay(p), () -> m.leastRelay(p));
            default -> compare("punctuality()", x::punctuality, m::punctuality);
        }
    }

    private void askWhatIf() {
        int c = someCourier();
        int ticks = pick(0, below(4) == 0 ? 200 : 40);
        switch (below(4)) {
            case 0 -> compare("paidIn(" + ticks + ")", () -> x.paidIn(ticks), () -> m.paidIn(ticks));
            case 1 -> compare("bestZone(" + c + ", " + ticks + ")", () -> x.bestZone(c, ticks), () -> m.bestZone(c, ticks));
            case 2 -> compare("worth(" + c + ", " + ticks + ")", () -> x.worth(c, ticks), () -> m.worth(c, ticks));
            default -> compare("doneIn()", x::doneIn, m::doneIn);
        }
    }

    /** Some items, mostly with a fault, and now and then a wrong byte. */
    private void write() {
        StringBuilder text = new StringBuilder();
        for (int k = below(4); k > 0; k--) {
            text.append(below(16)).append(',').append(below(17)).append(',')
                .append(someCutOff()).append(',').append(below(1002)).append(';');
        }
        for (int k = below(3) * below(2); k > 0 && text.length() > 0; k--) {
            int at = below(text.length());
            char sign = "0123456789,;; x".charAt(below(15));
            switch (below(3)) {
                case 0 -> text.setCharAt(at, sign);
                case 1 -> text.insert(at, sign);
                default -> text.deleteCharAt(at);
            }
        }
        if (below(3) > 0) {
            compare("clearText()", x::clearText, m::clearText);
        }
        for (int i = 0; i < text.length() && calls < CALLS - 2; i++) {
            int sign = below(wild * 50) == 0 ? EDGES[below(EDGES.length)] : text.charAt(i);
            compare("append(" + sign + ")", () -> x.append(sign), () -> m.append(sign));
        }
        compare("parse()", x::parse, m::parse);
    }
}
