/** Promise 14, leastRelay: a test for each sentence about a boundary. */
public final class Promise14Test {
    public static void main(String[] args) {
        Check.test("Promise 14: one courier is enough", Promise14Test::one);
        Check.test("Promise 14: a courier for each leg, six at most", Promise14Test::oneForEachLeg);
        Check.test("Promise 14: NONE if there is no such way of sharing", Promise14Test::none);
        Check.test("Promise 14: both zones of each leg in one area", Promise14Test::bothZones);
        Check.test("Promise 14: the least number", Promise14Test::least);
        Check.test("Promise 14: one who carries it twice counts twice", Promise14Test::twice);
        Check.test("Promise 14: from its origin, wherever it is and whatever it is", Promise14Test::fromOrigin);
        Check.test("Promise 14: IndexOutOfBoundsException if there is no such parcel", Promise14Test::noSuchParcel);
        Check.test("Promise 14: it changes nothing", Promise14Test::changesNothing);
        Check.end();
    }

    /** The couriers are far away, in zone 10: where they are does not matter. */
    private static int least(int origin, int destination, int... areas) {
        CourierRelay x = new CourierRelay();
        for (int area : areas) {
            x.addCourier(area, 10);
        }
        x.give(origin, destination, 999, 1);
        return x.leastRelay(0);
    }

    private static void one() {
        Check.is("a leg", least(0, 1, 3), 1);
        Check.is("six legs", least(0, 15, Made.ALL), 1);
        Check.is("six legs back", least(15, 0, Made.ALL), 1);
        Check.is("six legs, just the way", least(0, 15, Check.area(0, 1, 2, 3, 7, 11, 15)), 1);
        Check.is("the last one of six", least(0, 15, 0, 0, 0, 0, 0, Made.ALL), 1);
    }

    private static void oneForEachLeg() {
        int[] legs = {Check.area(0, 1), Check.area(1, 2), Check.area(2, 3), Check.area(3, 7), Check.area(7, 11),
            Check.area(11, 15)};
        Check.is("in their order", least(0, 15, legs), 6);
        Check.is("in another order", least(0, 15, legs[5], legs[3], legs[1], legs[4], legs[2], legs[0]), 6);
        Check.is("three legs", least(0, 3, legs), 3);
        Check.is("a leg of its own", least(3, 7, legs), 1);
    }

    private static void none() {
        Check.is("without couriers", least(0, 1), -1);
        Check.is("without areas", least(0, 1, 0, 0), -1);
        Check.is("the first leg missing", least(0, 3, Made.ALL - 1, Made.ALL - 2), -1);
        Check.is("the last leg missing", least(0, 3, Check.area(0, 1, 2), Check.area(3, 7)), -1);
        Check.is("a leg in the middle missing", least(0, 3, Check.area(0, 1), Check.area(2, 3)), -1);
        Check.is("the way by the rows alone", least(0, 5, Check.area(0, 4, 5)), -1);
        Check.is("the other direction's way alone", least(5, 0, Check.area(0, 1, 5)), -1);
    }

    private static void bothZones() {
        Check.is("each zone, but no leg", least(0, 2, Check.area(0, 2), Check.area(1)), -1);
        Check.is("origin and destination", least(0, 2, Check.area(0, 2)), -1);
        Check.is("all but the destination", least(0, 3, Made.ALL - Check.area(3)), -1);
        Check.is("all but the origin", least(0, 3, Made.ALL - Check.area(0)), -1);
    }

    private static void least() {
        Check.is("not the short one first", least(0, 3, Check.area(0, 1), Check.area(0, 1, 2), Check.area(2, 3)), 2);
        Check.is("not a change before the end", least(0, 3, Check.area(0, 1, 2), Check.area(1, 2, 3)), 2);
        Check.is("who begins later goes farther", least(0, 7, Check.area(0, 1), Check.area(1, 2), Check.area(2, 3),
                Check.area(1, 2, 3, 7)), 2);
        Check.is("the longest one in the middle does not help", least(0, 15, Check.area(1, 2, 3, 7, 11),
                Check.area(0, 1, 2, 3), Check.area(3, 7, 11, 15)), 2);
        Check.is("an area around a gap is none", least(0, 7, Check.area(0, 1, 3, 7), Check.area(1, 2, 3, 7)), 2);
    }

    private static void twice() {
        Check.is("with one between", least(0, 7, Check.area(0, 1, 3, 7), Check.area(1, 2, 3)), 3);
        Check.is("two of three twice", least(0, 15, Check.area(0, 1, 3, 7), Check.area(1, 2, 3, 11, 15),
                Check.area(7, 11)), 5);
        Check.is("twice in a row is once", least(0, 15, Check.area(0, 1, 3, 7), Check.area(1, 2, 3, 7, 11, 15)), 2);
    }

    private static void fromOrigin() {
        CourierRelay x = new CourierRelay();
        x.addCourier(Check.area(0, 1), 0);
        x.addCourier(Check.area(1, 2, 3), 1);
        x.give(0, 3, 99, 1);
        Check.is("waiting", x.leastRelay(0), 2);
        x.run(6);
        Check.is("carried by the second one", x.courier(1, 3) + " " + x.leastRelay(0), "2 2");
        x.run(20);
        Check.is("delivered", x.parcel(0, 4) + " " + x.leastRelay(0), "2 2");
        x.setArea(0, Check.area(0));
        Check.is("delivered, the area changed", x.leastRelay(0), -1);
        CourierRelay y = Made.one(Made.ALL, 0, 15, 1, 1);
        y.run(50);
        y.give(9, 8, 1, 1);
        y.run(50);
        Check.is("failed", y.parcel(1, 4) + " " + y.leastRelay(1), "3 1");
    }

    private static void noSuchParcel() {
        for (int number : new int[] {-1, 4, 23, 24, Integer.MIN_VALUE, Integer.MAX_VALUE}) {
            Check.refuses(Made::some, "leastRelay(" + number + ")", Check.INDEX, x -> x.leastRelay(number));
        }
        Check.refuses(Made::full, "leastRelay(24)", Check.INDEX, x -> x.leastRelay(24));
        CourierRelay x = Made.parcels(24);
        x.addCourier(Made.ALL, 0);
        Check.is("leastRelay(23)", x.leastRelay(23), 1);
    }

    private static void changesNothing() {
        int[] due = {2, -1, -1, 2};
        for (int p = 0; p < 4; p++) {
            int parcel = p;
            Check.answersOnly(Made::some, "leastRelay(" + p + ")", due[p], x -> x.leastRelay(parcel));
        }
    }
}
