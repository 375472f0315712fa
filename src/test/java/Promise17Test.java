/** Promise 17, bestZone: a test for each sentence about a boundary. */
public final class Promise17Test {
    public static void main(String[] args) {
        Check.test("Promise 17: ticks is 0 to 200", Promise17Test::inside);
        Check.test("Promise 17: IllegalArgumentException if ticks is out of range", Promise17Test::outside);
        Check.test("Promise 17: IndexOutOfBoundsException if there is no such courier", Promise17Test::noSuchCourier);
        Check.test("Promise 17: the courier comes before the ticks", Promise17Test::courierFirst);
        Check.test("Promise 17: each zone can be the best one", Promise17Test::eachZone);
        Check.test("Promise 17: wherever the courier is", Promise17Test::whereverItIs);
        Check.test("Promise 17: of several the lowest one", Promise17Test::lowest);
        Check.test("Promise 17: the one with which customers pay the most", Promise17Test::most);
        Check.test("Promise 17: NONE if it is not more than without", Promise17Test::notMore);
        Check.test("Promise 17: a zone that is not of its area", Promise17Test::notOfItsArea);
        Check.test("Promise 17: the gain of one unit is a gain", Promise17Test::gainOfOne);
        Check.test("Promise 17: the area of this courier alone gets it", Promise17Test::thisOneAlone);
        Check.test("Promise 17: it goes on beyond the time 2000", Promise17Test::beyondTheEnd);
        Check.test("Promise 17: it changes nothing", Promise17Test::changesNothing);
        Check.end();
    }

    private static void inside() {
        CourierRelay x = Made.one(1, 0, 1, 99, 7);
        Check.is("bestZone(0, 0)", x.bestZone(0, 0), -1);
        Check.is("bestZone(0, 2)", x.bestZone(0, 2), -1);
        Check.is("bestZone(0, 3)", x.bestZone(0, 3), 1);
        Check.is("bestZone(0, 199)", x.bestZone(0, 199), 1);
        Check.is("bestZone(0, 200)", x.bestZone(0, 200), 1);
    }

    private static void outside() {
        for (int ticks : new int[] {-1, 201, Integer.MIN_VALUE, Integer.MAX_VALUE}) {
            String call = "bestZone(0, " + ticks + ")";
            Check.refuses(Made::some, call, Check.ARGUMENT, x -> x.bestZone(0, ticks));
            Check.refuses(Made::full, call, Check.ARGUMENT, x -> x.bestZone(0, ticks));
        }
        Check.refuses(() -> Made.couriers(1), "bestZone(0, 201)", Check.ARGUMENT, x -> x.bestZone(0, 201));
        CourierRelay x = new CourierRelay();
        x.addCourier(Made.ALL, 0);
        Check.fails("bestZone(0, 201) with all zones", Check.ARGUMENT, () -> x.bestZone(0, 201));
    }

    private static void noSuchCourier() {
        for (int number : new int[] {-1, 2, 5, 6, Integer.MIN_VALUE, Integer.MAX_VALUE}) {
            Check.refuses(Made::some, "bestZone(" + number + ", 9)", Check.INDEX, x -> x.bestZone(number, 9));
        }
        Check.refuses(Made::full, "bestZone(6, 9)", Check.INDEX, x -> x.bestZone(6, 9));
        CourierRelay x = Made.couriers(5);
        x.addCourier(1, 0);
        x.give(0, 4, 99, 7);
        Check.is("bestZone(5, 9)", x.bestZone(5, 9), 4);
    }

    private static void courierFirst() {
        Check.refuses(Made::some, "bestZone(2, 201)", Check.INDEX, x -> x.bestZone(2, 201));
        Check.refuses(Made::some, "bestZone(-1, -1)", Check.INDEX, x -> x.bestZone(-1, -1));
        Check.refuses(Made::empty, "bestZone(0, 201)", Check.INDEX, x -> x.bestZone(0, 201));
    }

    private static void eachZone() {
        for (int zone = 0; zone < 16; zone++) {
            int beside = zone % 4 == 0 ? zone + 1 : zone - 1;
            CourierRelay to = Made.one(Check.area(beside), beside, zone, 99, 7);
            Check.is("the destination " + zone, to.bestZone(0, 50), zone);
            CourierRelay from = Made.one(Check.area(beside), zone, beside, 99, 7);
            Check.is("the origin " + zone, from.bestZone(0, 50), zone);
            CourierRelay last = Made.one(Made.ALL - Check.area(zone), beside, zone, 99, 7);
            Check.is("the one zone that is missing, " + zone, last.bestZone(0, 50), zone);
        }
    }

    private static void whereverItIs() {
        for (int at : new int[] {0, 5, 10, 15}) {
            for (int zone = 0; zone < 16; zone++) {
                int beside = zone % 4 == 0 ? zone + 1 : zone - 1;
                CourierRelay x = new CourierRelay();
                x.addCourier(Check.area(beside), at);
                x.give(beside, zone, 99, 7);
                Check.is("the destination " + zone + ", from " + at, x.bestZone(0, 50), zone);
            }
        }
    }

    private static void lowest() {
        CourierRelay x = Made.one(Check.area(5), 5, 9, 99, 7);
        x.give(5, 6, 99, 7);
        x.give(5, 4, 99, 7);
        x.give(5, 1, 99, 7);
        Check.is("of four", x.bestZone(0, 200), 1);
        x.setArea(0, Check.area(1, 5));
        Check.is("of three", x.bestZone(0, 200), 4);
        x.setArea(0, Check.area(1, 4, 5));
        Check.is("of two", x.bestZone(0, 200), 6);
        x.setArea(0, Check.area(1, 4, 5, 6));
        Check.is("the last one", x.bestZone(0, 200), 9);
        x.setArea(0, Check.area(1, 4, 5, 6, 9));
        Check.is("no more", x.bestZone(0, 200), -1);
    }

    private static void most() {
        CourierRelay x = Made.one(Check.area(5), 5, 1, 99, 7);
        x.give(5, 4, 99, 9);
        x.give(5, 6, 99, 9);
        x.give(5, 9, 99, 8);
        Check.is("the one that pays 9, the lower one", x.bestZone(0, 200), 4);
        x.give(5, 9, 99, 2);
        Check.is("the one that pays 8 and 2", x.bestZone(0, 200), 9);
        Check.is("in the first ticks, one parcel alone", x.bestZone(0, 5), 4);
        Check.is("before the first one comes", x.bestZone(0, 4), -1);
    }

    private static void notMore() {
        CourierRelay x = Made.one(0, 0, 1, 99, 7);
        Check.is("no zone alone helps", x.bestZone(0, 200), -1);
        x.setArea(0, 3);
        Check.is("all is paid without", x.bestZone(0, 200), -1);
        CourierRelay free = Made.one(1, 0, 1, 99, 0);
        Check.is("a tip of 0 is no gain", free.bestZone(0, 200), -1);
        CourierRelay half = Made.one(1, 0, 1, 1, 1);
        Check.is("half a tip of 1 is no gain", half.bestZone(0, 200), -1);
        CourierRelay nothing = new CourierRelay();
        nothing.addCourier(0, 0);
        Check.is("no parcels", nothing.bestZone(0, 200), -1);
        CourierRelay equal = Made.one(3, 0, 1, 4, 7);
        equal.give(0, 4, 4, 7);
        equal.setGrace(0);
        Check.is("one of two, whichever it is", equal.bestZone(0, 200), -1);
        CourierRelay worse = Made.one(Check.area(0, 1), 0, 1, 9, 100);
        worse.give(15, 14, 5, 1);
        worse.setArea(0, Check.area(0, 1, 14));
        Check.is("a zone that makes it less", worse.bestZone(0, 200), -1);
    }

    private static void notOfItsArea() {
        CourierRelay x = new CourierRelay();
        x.addCourier(Made.ALL, 0);
        x.give(0, 1, 99, 7);
        Check.is("all zones are of its area", x.bestZone(0, 200), -1);
        x.give(5, 6, 99, 7);
        x.setArea(0, Made.ALL - Check.area(15));
        Check.is("a missing zone that does not matter", x.bestZone(0, 200), -1);
    }

    private static void gainOfOne() {
        Check.is("a tip of 1", Made.one(1, 0, 1, 99, 1).bestZone(0, 200), 1);
        Check.is("half a tip of 2", Made.one(1, 0, 1, 1, 2).bestZone(0, 200), 1);
        Check.is("at the cut-off, not half", Made.one(1, 0, 1, 3, 1).bestZone(0, 200), 1);
        Check.is("one tick after it", Made.one(1, 0, 1, 2, 1).bestZone(0, 200), -1);
    }

    private static void thisOneAlone() {
        CourierRelay x = Made.one(1, 0, 1, 99, 7);
        x.addCourier(Check.area(8), 8);
        x.give(8, 9, 99, 9);
        Check.is("of the first one", x.bestZone(0, 200), 1);
        Check.is("of the second one", x.bestZone(1, 200), 9);
        Check.is("with the other one's help", relayed().bestZone(0, 200), 1);
    }

    private static CourierRelay relayed() {
        CourierRelay x = Made.one(1, 0, 2, 99, 7);
        x.addCourier(Check.area(1, 2), 2);
        return x;
    }

    private static void beyondTheEnd() {
        for (int time : new int[] {1801, 2000}) {
            Check.answersOnly(() -> late(time), "bestZone(0, 200) at " + time, -1, x -> x.bestZone(0, 200));
        }
    }

    private static CourierRelay late(int time) {
        CourierRelay x = Made.at(time);
        x.addCourier(1, 0);
        x.give(0, 1, 999, 1000);
        return x;
    }

    private static void changesNothing() {
        Check.answersOnly(Made::some, "bestZone(0, 0)", -1, x -> x.bestZone(0, 0));
        Check.answersOnly(() -> Made.one(1, 0, 1, 99, 7), "bestZone(0, 200)", 1, x -> x.bestZone(0, 200));
        CourierRelay x = Made.one(1, 0, 1, 99, 7);
        x.bestZone(0, 200);
        Check.is("asked again", x.bestZone(0, 200), 1);
        Check.is("the area", x.courier(0, 0), 1);
        Check.is("paidIn(200)", x.paidIn(200), 0);
    }
}
