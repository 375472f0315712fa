/** Promise 7, run: a test for each sentence of "A tick". */
public final class Promise07TickTest {
    public static void main(String[] args) {
        Check.test("Promise 7, a tick: the time increases by 1", Promise07TickTest::timeByOne);
        Check.test("Promise 7, a tick: the couriers act in ascending order", Promise07TickTest::ascending);
        Check.test("Promise 7, a tick: the next zone, columns before rows", Promise07TickTest::nextZone);
        Check.test("Promise 7, a tick: carrying, the next zone is in its area", Promise07TickTest::carries);
        Check.test("Promise 7, a tick: carrying, its own zone need not be in its area", Promise07TickTest::ownZone);
        Check.test("Promise 7, a tick: carrying, this zone is the destination", Promise07TickTest::arrives);
        Check.test("Promise 7, a tick: carrying, the next zone is not in its area", Promise07TickTest::handsOver);
        Check.test("Promise 7, a tick: who takes over in the same tick", Promise07TickTest::takesOver);
        Check.test("Promise 7, a tick: on the way, it is in the zone", Promise07TickTest::takes);
        Check.test("Promise 7, a tick: on the way, it is in another zone", Promise07TickTest::approaches);
        Check.test("Promise 7, a tick: on the way its area does not matter", Promise07TickTest::areaOnTheWay);
        Check.test("Promise 7, a tick: on the way it chooses no other one", Promise07TickTest::stays);
        Check.test("Promise 7, a tick: it chooses what suits it", Promise07TickTest::suits);
        Check.test("Promise 7, a tick: it chooses the lowest cut-off", Promise07TickTest::lowestCutOff);
        Check.test("Promise 7, a tick: of equal cut-offs the lowest number", Promise07TickTest::lowestNumber);
        Check.test("Promise 7, a tick: not one to which another one is on the way", Promise07TickTest::notSought);
        Check.test("Promise 7, a tick: only waiting ones are chosen", Promise07TickTest::waitingOnly);
        Check.test("Promise 7, a tick: cut-off plus grace less than t", Promise07TickTest::failsAfter);
        Check.test("Promise 7, a tick: the greatest cut-off and grace", Promise07TickTest::failsLast);
        Check.test("Promise 7, a tick: a carried one fails, its courier is free", Promise07TickTest::carriedFails);
        Check.test("Promise 7, a tick: a sought one fails, its courier is free", Promise07TickTest::soughtFails);
        Check.test("Promise 7, a tick: the couriers act before parcels fail", Promise07TickTest::actsFirst);
        Check.test("Promise 7, a tick: several fail in the same tick", Promise07TickTest::severalFail);
        Check.end();
    }

    /** What a courier is, tick by tick: its zone, what it does. */
    private static String way(CourierRelay x, int courier, int ticks) {
        StringBuilder way = new StringBuilder();
        for (int k = 0; k < ticks; k++) {
            x.run(1);
            way.append(k == 0 ? "" : " ").append(x.courier(courier, 1)).append("fwc".charAt(x.courier(courier, 3)));
        }
        return way.toString();
    }

    private static void timeByOne() {
        CourierRelay x = Made.one(3, 0, 1, 9, 5);
        for (int t = 1; t <= 20; t++) {
            x.run(1);
            Check.is("the time", x.value(0), t);
        }
        Check.is("delivered at", x.parcel(0, 6), 3);
    }

    private static void ascending() {
        CourierRelay x = new CourierRelay();
        for (int c = 0; c < 6; c++) {
            x.addCourier(Made.ALL, c < 5 ? 15 : 0);
        }
        x.give(0, 1, 99, 5);
        x.give(0, 1, 98, 5);
        x.give(0, 1, 97, 5);
        x.run(1);
        StringBuilder chosen = new StringBuilder();
        for (int c = 0; c < 6; c++) {
            chosen.append(x.courier(c, 4)).append(' ');
        }
        Check.is("chosen, the lowest courier first", chosen.toString(), "2 1 0 -1 -1 -1 ");
    }

    private static String parcelWay(int from, int to) {
        CourierRelay x = new CourierRelay();
        x.addCourier(Made.ALL, from);
        x.give(from, to, 99, 5);
        x.run(2);
        StringBuilder way = new StringBuilder();
        for (int k = 0; k < 9 && x.parcel(0, 4) == 1; k++) {
            x.run(1);
            way.append(k == 0 ? "" : " ").append(x.parcel(0, 5));
        }
        return way.toString();
    }

    private static void nextZone() {
        Check.is("0 to 15", parcelWay(0, 15), "1 2 3 7 11 15");
        Check.is("15 to 0", parcelWay(15, 0), "14 13 12 8 4 0");
        Check.is("3 to 12", parcelWay(3, 12), "2 1 0 4 8 12");
        Check.is("12 to 3", parcelWay(12, 3), "13 14 15 11 7 3");
        Check.is("0 to 3", parcelWay(0, 3), "1 2 3");
        Check.is("3 to 0", parcelWay(3, 0), "2 1 0");
        Check.is("0 to 12", parcelWay(0, 12), "4 8 12");
        Check.is("12 to 0", parcelWay(12, 0), "8 4 0");
        Check.is("3 to 4, no way round the edge", parcelWay(3, 4), "2 1 0 4");
        Check.is("4 to 3, no way round the edge", parcelWay(4, 3), "5 6 7 3");
        Check.is("12 to 11", parcelWay(12, 11), "13 14 15 11");
        Check.is("5 to 10", parcelWay(5, 10), "6 10");
        Check.is("10 to 5", parcelWay(10, 5), "9 5");
    }

    private static void carries() {
        CourierRelay x = Made.one(Check.area(0, 1, 2), 0, 2, 99, 5);
        x.run(2);
        Check.is("legs, having taken it", x.legs(0, 0, false), 0);
        x.run(1);
        Check.is("the courier", Check.courier(x, 0), "7 1 0 2 0 1");
        Check.is("the parcel", Check.parcel(x, 0), "0 2 99 5 1 1 -1 0 1");
        Check.is("moves", x.value(10), 1);
    }

    private static void ownZone() {
        CourierRelay x = Made.one(3, 0, 1, 99, 5);
        x.run(2);
        x.setArea(0, Check.area(1));
        x.run(1);
        Check.is("the parcel", Check.parcel(x, 0), "0 1 99 5 2 1 3 5 1");
        CourierRelay y = Made.one(3, 0, 1, 99, 5);
        y.run(2);
        y.setArea(0, Check.area(0));
        y.run(1);
        Check.is("the next zone must be", Check.parcel(y, 0), "0 1 99 5 0 0 -1 0 0");
        Check.is("handovers", y.value(9), 1);
    }

    private static void arrives() {
        CourierRelay x = Made.one(3, 0, 1, 99, 5);
        x.give(1, 0, 99, 5);
        Check.is("delivered in the tick of the move", x.run(3), 1);
        Check.is("the courier, free, choosing nothing yet", Check.courier(x, 0), "3 1 5 0 -1 1");
        x.run(1);
        Check.is("one tick later", Check.courier(x, 0), "3 1 5 1 1 1");
        Check.is("the parcel", Check.parcel(x, 0), "0 1 99 5 2 1 3 5 1");
    }

    private static void handsOver() {
        CourierRelay x = Made.one(3, 0, 2, 50, 5);
        x.give(1, 0, 99, 5);
        x.run(3);
        Check.is("the courier, at the end of its area", Check.courier(x, 0), "3 1 0 2 0 1");
        x.run(1);
        Check.is("the courier, free, choosing nothing yet", Check.courier(x, 0), "3 1 0 0 -1 1");
        Check.is("the parcel waits in this zone", Check.parcel(x, 0), "0 2 50 5 0 1 -1 0 1");
        Check.is("handovers", x.value(9), 1);
        Check.is("moves", x.value(10), 1);
        x.run(1);
        Check.is("one tick later", Check.courier(x, 0), "3 1 0 1 1 1");
    }

    private static void takesOver() {
        CourierRelay x = new CourierRelay();
        x.addCourier(Check.area(1, 2), 1);
        x.addCourier(Check.area(0, 1), 0);
        x.addCourier(Check.area(1, 2), 15);
        x.give(0, 2, 99, 5);
        x.run(4);
        Check.is("the higher one chooses in the same tick", x.courier(2, 4), 0);
        Check.is("the lower one does not", x.courier(0, 4), -1);
        CourierRelay y = new CourierRelay();
        y.addCourier(Check.area(1, 2), 1);
        y.addCourier(Check.area(0, 1), 0);
        y.give(0, 2, 99, 5);
        y.run(4);
        Check.is("the lower one, in the tick", y.courier(0, 4), -1);
        y.run(1);
        Check.is("the lower one, one tick later", y.courier(0, 4), 0);
    }

    private static void takes() {
        CourierRelay x = Made.one(3, 0, 1, 99, 5);
        Check.is("its way: chooses, takes, moves", way(x, 0, 3), "0w 0c 1f");
        CourierRelay y = Made.one(3, 0, 1, 99, 5);
        y.run(1);
        Check.is("the parcel, chosen", Check.parcel(y, 0), "0 1 99 5 0 0 -1 0 0");
        y.run(1);
        Check.is("the parcel, taken", Check.parcel(y, 0), "0 1 99 5 1 0 -1 0 0");
        Check.is("moves", y.value(10), 0);
    }

    private static void approaches() {
        CourierRelay x = Made.one(Check.area(1, 2), 1, 2, 99, 5);
        Check.is("its way: chooses, moves, takes, moves", way(x, 0, 4), "0w 1w 1c 2f");
        Check.is("legs, the way to it is none", x.legs(0, 0, false), 1);
        Check.is("moves, the way to it counts", x.value(10), 2);
    }

    private static void areaOnTheWay() {
        CourierRelay x = Made.one(Check.area(14, 15), 15, 14, 99, 5);
        Check.is("its way through other areas", way(x, 0, 9), "0w 1w 2w 3w 7w 11w 15w 15c 14f");
        CourierRelay y = Made.one(3, 0, 1, 99, 5);
        y.run(1);
        y.setArea(0, 0);
        Check.is("it takes what suits it no more", way(y, 0, 2), "0c 0f");
        Check.is("and hands it over", y.value(9), 1);
    }

    private static void stays() {
        CourierRelay x = Made.one(Made.ALL, 3, 2, 99, 5);
        x.run(1);
        x.give(0, 1, 2, 1000);
        x.run(1);
        Check.is("it stays on its way", Check.courier(x, 0), "65535 1 0 1 0 0");
    }

    private static int chosen(int area, int from, int to) {
        CourierRelay x = Made.one(area, from, to, 99, 5);
        x.run(1);
        return x.courier(0, 4);
    }

    private static void suits() {
        Check.is("zone and next zone", chosen(Check.area(5, 6), 5, 15), 0);
        Check.is("the zone alone", chosen(Made.ALL - Check.area(6), 5, 15), -1);
        Check.is("the next zone alone", chosen(Made.ALL - Check.area(5), 5, 15), -1);
        Check.is("zone and destination", chosen(Check.area(5, 15), 5, 15), -1);
        Check.is("the row's next zone", chosen(Check.area(5, 9, 15), 5, 15), -1);
        Check.is("no area", chosen(0, 5, 15), -1);
        Check.is("the next zone is the destination", chosen(Check.area(11, 15), 11, 15), 0);
    }

    private static void lowestCutOff() {
        CourierRelay x = new CourierRelay();
        x.addCourier(Made.ALL, 0);
        x.give(0, 1, 999, 1000);
        x.give(0, 1, 500, 1000);
        x.give(15, 14, 499, 0);
        x.give(0, 1, 500, 1000);
        x.run(1);
        Check.is("chosen", x.courier(0, 4), 2);
        CourierRelay last = Made.one(Made.ALL, 0, 1, 999, 5);
        last.run(1);
        Check.is("the greatest cut-off", last.courier(0, 4), 0);
        CourierRelay over = Made.at(5);
        over.addCourier(Made.ALL, 0);
        over.give(0, 1, 6, 5);
        over.give(0, 1, 1, 5);
        over.run(1);
        Check.is("one that is late already", over.courier(0, 4), 1);
    }

    private static void lowestNumber() {
        CourierRelay x = new CourierRelay();
        x.addCourier(Made.ALL, 0);
        x.give(15, 14, 100, 0);
        x.give(0, 1, 100, 1000);
        x.give(0, 1, 100, 1000);
        x.run(1);
        Check.is("chosen", x.courier(0, 4), 0);
        CourierRelay y = new CourierRelay();
        y.addCourier(3, 0);
        y.give(15, 14, 100, 0);
        y.give(0, 1, 100, 0);
        y.give(0, 1, 100, 0);
        y.run(1);
        Check.is("the lowest of those that suit", y.courier(0, 4), 1);
    }

    private static void notSought() {
        CourierRelay x = Made.one(3, 0, 1, 50, 5);
        x.addCourier(3, 0);
        x.addCourier(3, 0);
        x.give(1, 0, 60, 5);
        x.run(1);
        Check.is("the first one", x.courier(0, 4), 0);
        Check.is("the second one", x.courier(1, 4), 1);
        Check.is("the third one finds none", Check.courier(x, 2), "3 0 0 0 -1 0");
        CourierRelay y = Made.one(0, 0, 1, 50, 5);
        y.addCourier(3, 15);
        y.run(1);
        y.setArea(0, 3);
        y.run(1);
        Check.is("the higher one was first", y.courier(0, 4), -1);
    }

    private static void waitingOnly() {
        CourierRelay x = Made.one(7, 0, 2, 50, 5);
        x.addCourier(7, 1);
        x.run(3);
        Check.is("the parcel is carried", x.parcel(0, 4), 1);
        Check.is("not by the second one", x.courier(1, 4), -1);
        x.run(1);
        x.setArea(0, Made.ALL);
        x.run(1);
        Check.is("not a delivered one", x.courier(0, 4), -1);
        CourierRelay y = Made.one(0, 0, 1, 1, 5);
        y.run(12);
        y.setArea(0, Made.ALL);
        y.run(1);
        Check.is("not a failed one", y.courier(0, 4), -1);
    }

    private static void failsAfter() {
        for (int grace : new int[] {0, 1, 10, 99, 100}) {
            CourierRelay x = Made.at(3);
            x.setGrace(grace);
            x.give(0, 1, 20, 5);
            x.run(17 + grace);
            Check.is("state at cut-off plus " + grace, x.parcel(0, 4), 0);
            x.run(1);
            Check.is("state one tick later", x.parcel(0, 4), 3);
        }
    }

    private static void failsLast() {
        CourierRelay x = Made.at(1000);
        x.setGrace(100);
        x.give(0, 1, 999, 5);
        x.give(0, 1, 998, 5);
        x.run(98);
        Check.is("states at 1098", x.parcel(0, 4) + " " + x.parcel(1, 4), "0 0");
        x.run(1);
        Check.is("states at 1099", x.parcel(0, 4) + " " + x.parcel(1, 4), "0 3");
        x.run(1);
        Check.is("states at 1100", x.parcel(0, 4) + " " + x.parcel(1, 4), "3 3");
    }

    private static void carriedFails() {
        CourierRelay x = Made.one(Made.ALL, 0, 3, 3, 5);
        x.setGrace(0);
        x.run(3);
        Check.is("the courier before it", Check.courier(x, 0), "65535 1 0 2 0 1");
        x.give(9, 8, 90, 5);
        x.run(1);
        Check.is("the courier, free, choosing nothing yet", Check.courier(x, 0), "65535 2 0 0 -1 2");
        Check.is("the parcel", Check.parcel(x, 0), "0 3 3 5 3 2 -1 0 2");
        Check.is("values", Check.values(x), "4 1 2 0 1 0 0 1 0 0 2");
        x.run(1);
        Check.is("one tick later", Check.courier(x, 0), "65535 2 0 1 1 2");
        CourierRelay y = Made.one(3, 0, 2, 3, 5);
        y.setGrace(0);
        y.run(4);
        Check.is("handed over and failed in one tick", Check.parcel(y, 0), "0 2 3 5 3 1 -1 0 1");
        Check.is("handovers", y.value(9), 1);
    }

    private static void soughtFails() {
        CourierRelay x = Made.one(Check.area(2, 3), 3, 2, 1, 5);
        x.addCourier(Check.area(8, 9), 12);
        x.give(9, 8, 90, 5);
        x.setGrace(1);
        x.run(2);
        Check.is("the courier before it", Check.courier(x, 0), "12 1 0 1 0 0");
        x.run(1);
        Check.is("the courier", Check.courier(x, 0), "12 2 0 0 -1 0");
        Check.is("the parcel", Check.parcel(x, 0), "3 2 1 5 3 3 -1 0 0");
        Check.is("another one goes on", Check.courier(x, 1), "768 9 0 1 1 0");
    }

    private static void actsFirst() {
        CourierRelay x = Made.one(3, 0, 1, 2, 5);
        x.setGrace(0);
        x.run(3);
        Check.is("delivered in the tick in which it would fail", Check.parcel(x, 0), "0 1 2 5 2 1 3 2 1");
        CourierRelay y = Made.one(3, 0, 1, 1, 5);
        y.setGrace(0);
        y.run(2);
        Check.is("taken in the tick in which it fails", Check.parcel(y, 0), "0 1 1 5 3 0 -1 0 0");
        Check.is("its courier", Check.courier(y, 0), "3 0 0 0 -1 0");
        CourierRelay z = Made.at(20);
        z.addCourier(3, 0);
        z.give(0, 1, 1, 5);
        z.run(1);
        Check.is("chosen in the tick in which it fails", Check.courier(z, 0), "3 0 0 0 -1 0");
    }

    private static void severalFail() {
        CourierRelay x = new CourierRelay();
        x.setGrace(0);
        x.addCourier(Made.ALL, 0);
        x.addCourier(Made.ALL, 5);
        for (int p = 0; p < 24; p++) {
            x.give(15, 0, p < 22 ? 2 : 3, 5);
        }
        x.run(2);
        Check.is("values at the cut-off", Check.values(x), "2 2 24 0 24 0 0 0 0 0 2");
        x.run(1);
        Check.is("values one tick later", Check.values(x), "3 2 24 0 2 0 0 22 0 0 4");
        Check.is("courier 0", Check.courier(x, 0), "65535 2 0 0 -1 0");
        Check.is("courier 1", Check.courier(x, 1), "65535 7 0 0 -1 0");
        x.run(1);
        Check.is("values two ticks later", Check.values(x), "4 2 24 0 0 0 0 24 0 0 4");
    }
}
