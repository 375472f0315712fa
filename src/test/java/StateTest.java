/** Promises 23 and 24: undo and digest. */
public final class StateTest {
    private static final Class<IllegalArgumentException> ARGUMENT = IllegalArgumentException.class;
    private static final Class<IllegalStateException> STATE = IllegalStateException.class;

    public static void main(String[] args) {
        undo();
        oldestIsDropped();
        allIsRestored();
        beginAnew();
        handoversAreRestored();
        whatSaves();
        digest();
        Check.end();
    }

    private static void undo() {
        CourierRelay x = new CourierRelay();
        Check.fails("undo() of nothing", STATE, () -> x.undo());
        x.setGrace(1);
        x.setGrace(2);
        Check.is("undo()", x.undo(), 1);
        Check.is("grace", x.value(3), 1);
        x.setGrace(3);
        Check.is("undo() of the new one", x.undo(), 1);
        Check.is("grace then", x.value(3), 1);
        Check.is("undo() of the first one", x.undo(), 0);
        Check.is("grace at last", x.value(3), 10);
        Check.fails("undo() once more", STATE, () -> x.undo());
        Check.is("grace still", x.value(3), 10);
    }

    private static void oldestIsDropped() {
        for (int calls = 4; calls <= 13; calls++) {
            CourierRelay x = new CourierRelay();
            for (int k = 1; k <= calls; k++) {
                x.setGrace(20 + k);
            }
            for (int k = 1; k <= 4; k++) {
                Check.is("undo() no. " + k + " of " + calls, x.undo(), 4 - k);
                Check.is("grace then", x.value(3), calls == k ? 10 : 20 + calls - k);
            }
            Check.fails("undo() no. 5 of " + calls, STATE, () -> x.undo());
        }
    }

    private static CourierRelay busy() {
        CourierRelay x = new CourierRelay();
        x.addCourier(Check.area(0, 1), 0);
        x.addCourier(Check.area(1, 2, 3), 3);
        x.setGrace(3);
        x.give(0, 3, 50, 11);
        x.give(9, 8, 2, 11);
        x.run(13);
        x.give(0, 3, 60, 8);
        x.run(7);
        return x;
    }

    private static String all(CourierRelay x) {
        StringBuilder text = new StringBuilder(Check.values(x));
        for (int c = 0; c < x.value(1); c++) {
            text.append('|').append(Check.courier(x, c));
        }
        for (int p = 0; p < x.value(2); p++) {
            text.append('|').append(Check.parcel(x, p));
            text.append('/').append(Check.legs(x, p, false)).append('/').append(Check.legs(x, p, true));
        }
        return text.toString();
    }

    private static void allIsRestored() {
        CourierRelay x = busy();
        String before = all(x);
        x.run(100);
        x.addCourier(65535, 9);
        x.give(5, 6, 7, 8);
        x.run(3);
        x.append('z');
        x.undo();
        x.undo();
        x.undo();
        Check.is("undo()", x.undo(), 0);
        Check.is("everything", all(x), before);
        Check.is("but the text", x.clearText(), 1);
        x.give(5, 6, 7, 8);
        x.addCourier(65535, 9);
        Check.is("a new parcel where one was", Check.parcel(x, 3), "5 6 7 8 0 5 -1 0 0");
        Check.is("its legs", Check.legs(x, 3, false) + Check.legs(x, 3, true), "0 0 00 0 0");
        Check.is("a new courier where one was", Check.courier(x, 2), "65535 9 0 0 -1 0");
        CourierRelay y = new CourierRelay();
        y.addCourier(65535, 0);
        y.give(0, 1, 9, 8);
        y.run(10);
        y.undo();
        y.undo();
        y.give(0, 2, 9, 8);
        Check.is("a parcel after a delivered one was undone", Check.legs(y, 0, false), "0");
        Check.is("its share", Check.legs(y, 0, true), "0");
        Check.is("its values", Check.parcel(y, 0), "0 2 9 8 0 0 -1 0 0");
    }

    /** Whatever a courier and a parcel were before an undo, new ones begin anew. */
    private static void beginAnew() {
        CourierRelay x = new CourierRelay();
        x.addCourier(65535, 5);
        x.give(5, 7, 9, 8);
        x.run(3);
        x.undo();
        x.undo();
        x.undo();
        x.addCourier(3, 1);
        x.give(1, 0, 7, 6);
        Check.is("a courier after a carrying one", Check.courier(x, 0), "3 1 0 0 -1 0");
        Check.is("a parcel after a carried one", Check.parcel(x, 0), "1 0 7 6 0 1 -1 0 0");
        x.undo();
        x.undo();
        x.addCourier(65535, 5);
        x.give(5, 6, 9, 8);
        x.run(3);
        Check.is("a courier with tips", Check.courier(x, 0), "65535 6 8 0 -1 1");
        x.undo();
        x.undo();
        x.undo();
        x.addCourier(3, 1);
        x.give(1, 0, 7, 6);
        Check.is("a courier after one with tips", Check.courier(x, 0), "3 1 0 0 -1 0");
        Check.is("a parcel after a delivered one", Check.parcel(x, 0), "1 0 7 6 0 1 -1 0 0");
        Check.is("its legs and its share", Check.legs(x, 0, false) + Check.legs(x, 0, true), "00");
    }

    private static void handoversAreRestored() {
        CourierRelay x = new CourierRelay();
        x.addCourier(3, 0);
        x.give(0, 2, 99, 1);
        x.run(3);
        x.run(1);
        Check.is("handovers", x.value(9), 1);
        x.undo();
        Check.is("handovers after undo", x.value(9), 0);
        x.run(1);
        Check.is("handovers once more", x.value(9), 1);
    }

    private static int saved(CourierRelay x) {
        int left = x.undo();
        return left + 1;
    }

    private static void whatSaves() {
        CourierRelay x = new CourierRelay();
        x.addCourier(1, 1);
        x.addCourier(1, 1);
        x.undo();
        x.setArea(0, 1);
        Check.is("setArea, the same", saved(x), 2);
        x.setGrace(10);
        Check.is("setGrace, the same", saved(x), 2);
        x.drop(0);
        Check.is("drop of a free one", saved(x), 2);
        x.run(0);
        Check.is("run(0)", saved(x), 2);
        x.parse();
        Check.is("parse without items", saved(x), 2);
        x.give(0, 1, 1, 1);
        Check.is("give", saved(x), 2);
        x.append('x');
        x.parse();
        x.clearText();
        Check.fails("a wrong call", ARGUMENT, () -> x.setGrace(-1));
        x.paidIn(9);
        x.bestZone(0, 9);
        x.worth(0, 9);
        x.doneIn();
        x.digest();
        Check.is("what saves nothing", saved(x), 1);
    }

    private static long hash(long h, long v) {
        return 31 * h + v;
    }

    /** The digest as promise 24 tells it, from the other answers. */
    private static long due(CourierRelay x, int length, int states) {
        long h = hash(3313, length);
        for (int what = 0; what <= 10; what++) {
            h = hash(h, x.value(what));
        }
        for (int c = 0; c < x.value(1); c++) {
            for (int what = 0; what <= 5; what++) {
                h = hash(h, x.courier(c, what));
            }
        }
        for (int p = 0; p < x.value(2); p++) {
            for (int what = 0; what <= 8; what++) {
                h = hash(h, x.parcel(p, what));
            }
            for (int c = 0; c < x.value(1); c++) {
                h = hash(h, x.legs(p, c, false));
                h = hash(h, x.legs(p, c, true));
            }
        }
        return hash(h, states);
    }

    private static void digest() {
        CourierRelay x = new CourierRelay();
        Check.is("digest of a new object", x.digest(), due(x, 0, 0));
        x.append('1');
        Check.is("digest with a text", x.digest(), due(x, 1, 0));
        x.addCourier(3, 1);
        Check.is("digest with a courier", x.digest(), due(x, 1, 1));
        x.give(0, 1, 2, 3);
        Check.is("digest with a parcel", x.digest(), due(x, 1, 2));
        CourierRelay y = busy();
        Check.is("digest of a busy exchange", y.digest(), due(y, 0, 4));
        y.undo();
        Check.is("digest after undo", y.digest(), due(y, 0, 3));
    }
}
