/** Promises 16 to 19: the what-if questions, none of which changes anything. */
public final class WhatIfTest {
    private static final Class<IllegalArgumentException> ARGUMENT = IllegalArgumentException.class;
    private static final Class<IndexOutOfBoundsException> INDEX = IndexOutOfBoundsException.class;

    public static void main(String[] args) {
        paidIn();
        bestZone();
        worth();
        worthOfTheBusy();
        doneIn();
        afterTheEnd();
        Check.end();
    }

    private static void paidIn() {
        CourierRelay x = new CourierRelay();
        Check.fails("paidIn(-1)", ARGUMENT, () -> x.paidIn(-1));
        Check.fails("paidIn(201)", ARGUMENT, () -> x.paidIn(201));
        Check.is("paidIn(200) of nothing", x.paidIn(200), 0);
        x.addCourier(Check.area(0, 1, 2), 0);
        x.give(0, 2, 100, 10);
        x.give(2, 1, 5, 7);
        long before = x.digest();
        // Parcel 1 goes first: two moves to it, delivered at 5; then parcel 0, a move to it, delivered at 10.
        Check.is("paidIn(0)", x.paidIn(0), 0);
        Check.is("paidIn(4)", x.paidIn(4), 0);
        Check.is("paidIn(5)", x.paidIn(5), 7);
        Check.is("paidIn(9)", x.paidIn(9), 7);
        Check.is("paidIn(10)", x.paidIn(10), 17);
        Check.is("paidIn(200)", x.paidIn(200), 17);
        Check.is("digest after what-if", x.digest(), before);
        x.run(5);
        Check.is("further ticks alone", x.paidIn(200), 10);
        x.setArea(0, 0);
        x.run(50);
        x.setArea(0, 7);
        Check.is("after idle ticks", x.paidIn(200), 10);
    }

    private static void bestZone() {
        CourierRelay x = new CourierRelay();
        Check.fails("bestZone(0, 1) without couriers", INDEX, () -> x.bestZone(0, 1));
        x.addCourier(Check.area(0, 1), 0);
        x.give(0, 2, 100, 10);
        long before = x.digest();
        Check.is("bestZone(0, 3)", x.bestZone(0, 3), -1);
        Check.is("bestZone(0, 4)", x.bestZone(0, 4), 2);
        Check.is("bestZone(0, 200)", x.bestZone(0, 200), 2);
        Check.is("bestZone(0, 0)", x.bestZone(0, 0), -1);
        Check.is("digest after what-if", x.digest(), before);
        Check.fails("bestZone(1, 201)", INDEX, () -> x.bestZone(1, 201));
        Check.fails("bestZone(-1, 1)", INDEX, () -> x.bestZone(-1, 1));
        Check.fails("bestZone(0, 201)", ARGUMENT, () -> x.bestZone(0, 201));
        Check.fails("bestZone(0, -1)", ARGUMENT, () -> x.bestZone(0, -1));
        x.setArea(0, 65535);
        Check.is("bestZone with all zones", x.bestZone(0, 200), -1);
        CourierRelay z = new CourierRelay();
        z.addCourier(Check.area(1), 1);
        z.give(1, 0, 100, 10);
        Check.is("the zone 0", z.bestZone(0, 3), 0);
        Check.is("asked again", z.bestZone(0, 3), 0);
        Check.is("asked of fewer ticks", z.bestZone(0, 2), -1);
        z.setArea(0, 3);
        Check.is("paidIn(200), which plays to the end", z.paidIn(200), 10);
        Check.is("no gain, after another question", z.bestZone(0, 200), -1);
        z.undo();
        z.undo();
        z.give(14, 15, 100, 10);
        z.setArea(0, Check.area(14));
        Check.is("the zone 15", z.bestZone(0, 200), 15);
        CourierRelay y = new CourierRelay();
        y.addCourier(Check.area(5), 5);
        y.give(5, 6, 100, 10);
        y.give(5, 4, 100, 10);
        Check.is("the lowest of several", y.bestZone(0, 200), 4);
        y.give(9, 5, 100, 11);
        Check.is("the one that pays the most", y.bestZone(0, 200), 9);
        y.setArea(0, Check.area(5, 6));
        y.setArea(0, Check.area(4, 5, 9));
        Check.is("only a gain counts", y.bestZone(0, 200), 6);
        y.run(30);
        Check.is("what was paid before does not count", y.bestZone(0, 200), 6);
    }

    private static void worth() {
        CourierRelay x = new CourierRelay();
        Check.fails("worth(0, 1) without couriers", INDEX, () -> x.worth(0, 1));
        x.addCourier(65535, 15);
        x.addCourier(65535, 0);
        x.give(0, 1, 5, 11);
        long before = x.digest();
        // The first one takes the parcel from the second one and comes late.
        Check.is("worth(0, 200), in the way", x.worth(0, 200), -6);
        Check.is("worth(1, 200), idle", x.worth(1, 200), 0);
        Check.is("worth(0, 2)", x.worth(0, 2), 0);
        Check.is("worth(0, 3)", x.worth(0, 3), -11);
        Check.is("digest after what-if", x.digest(), before);
        Check.fails("worth(2, 201)", INDEX, () -> x.worth(2, 201));
        Check.fails("worth(-1, 1)", INDEX, () -> x.worth(-1, 1));
        Check.fails("worth(0, -1)", ARGUMENT, () -> x.worth(0, -1));
        Check.fails("worth(0, 201)", ARGUMENT, () -> x.worth(0, 201));
        CourierRelay y = new CourierRelay();
        y.addCourier(Check.area(0, 1, 2, 3), 0);
        y.addCourier(Check.area(1, 2, 3), 3);
        y.give(0, 3, 100, 10);
        y.run(3);
        Check.is("carried to zone 1", Check.courier(y, 0), "15 1 0 2 0 1");
        // The second one would choose, move twice, take and move twice.
        Check.is("worth(0, 2), the other one is not so quick", y.worth(0, 2), 10);
        Check.is("worth(0, 5)", y.worth(0, 5), 10);
        Check.is("worth(0, 6), the other one has taken what was dropped", y.worth(0, 6), 0);
    }

    private static void worthOfTheBusy() {
        CourierRelay x = new CourierRelay();
        x.addCourier(Check.area(1, 2), 1);
        x.addCourier(Check.area(0, 1, 2), 0);
        x.give(0, 2, 100, 10);
        x.run(3);
        Check.is("the second one carries", Check.courier(x, 1), "7 1 0 2 0 1");
        // Dropped before the ticks: the first one chooses, takes and moves in three of them.
        Check.is("worth(1, 2)", x.worth(1, 2), 10);
        Check.is("worth(1, 3)", x.worth(1, 3), 0);
        CourierRelay y = new CourierRelay();
        y.addCourier(65535, 15);
        y.give(0, 1, 100, 10);
        y.run(3);
        Check.is("on the way", Check.courier(y, 0), "65535 13 0 1 0 0");
        Check.is("worth of the only one", y.worth(0, 200), 10);
        Check.is("worth asked again", y.worth(0, 200), 10);
        y.addCourier(65535, 0);
        Check.is("another one takes what it was on the way to", y.worth(0, 200), 0);
        Check.is("before it", y.worth(0, 5), -10);
    }

    private static void doneIn() {
        CourierRelay x = new CourierRelay();
        Check.is("doneIn() of nothing", x.doneIn(), 0);
        x.addCourier(Check.area(0, 1, 2), 0);
        x.give(0, 2, 100, 10);
        long before = x.digest();
        Check.is("doneIn(), delivered", x.doneIn(), 4);
        Check.is("digest after what-if", x.digest(), before);
        x.run(3);
        Check.is("doneIn(), carried", x.doneIn(), 1);
        x.give(9, 8, 20, 1);
        Check.is("doneIn(), failed", x.doneIn(), 20 + 10 + 1 - 3);
        x.run(28);
        Check.is("doneIn() then", x.doneIn(), 0);
        x.give(9, 8, 20, 1);
        Check.is("doneIn(), given too late", x.doneIn(), 1);
        CourierRelay y = new CourierRelay();
        y.give(9, 8, 999, 1);
        y.setGrace(100);
        Check.is("doneIn(), the longest", y.doneIn(), 1100);
    }

    private static void afterTheEnd() {
        CourierRelay x = new CourierRelay();
        x.addCourier(Check.area(0, 1, 2), 0);
        for (int k = 0; k < 10; k++) {
            x.run(200);
        }
        x.setGrace(100);
        x.give(0, 1, 999, 1000);
        Check.is("doneIn() at 2000", x.doneIn(), 1);
        Check.is("paidIn(200) at 2000", x.paidIn(200), 0);
        CourierRelay y = new CourierRelay();
        y.addCourier(Check.area(0, 1, 2), 0);
        y.give(0, 1, 999, 1000);
        for (int k = 0; k < 10; k++) {
            y.run(k < 4 ? 199 : 200);
        }
        Check.is("time", y.value(0), 1996);
        Check.is("worth(0, 200) near 2000", y.worth(0, 200), 0);
        Check.is("bestZone(0, 200) near 2000", y.bestZone(0, 200), -1);
        Check.is("time after what-if", y.value(0), 1996);
    }
}
