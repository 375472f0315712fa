/** Promise 18, worth: a test for each sentence about a boundary. */
public final class Promise18Test {
    public static void main(String[] args) {
        Check.test("Promise 18: ticks is 0 to 200", Promise18Test::inside);
        Check.test("Promise 18: IllegalArgumentException if ticks is out of range", Promise18Test::outside);
        Check.test("Promise 18: IndexOutOfBoundsException if there is no such courier", Promise18Test::noSuchCourier);
        Check.test("Promise 18: the courier comes before the ticks", Promise18Test::courierFirst);
        Check.test("Promise 18: it did nothing any more", Promise18Test::nothingAnyMore);
        Check.test("Promise 18: having dropped what it carries", Promise18Test::droppedCarried);
        Check.test("Promise 18: having dropped to what it is on the way", Promise18Test::droppedSought);
        Check.test("Promise 18: it can be below 0", Promise18Test::belowZero);
        Check.test("Promise 18: 0 for one who does nothing", Promise18Test::zero);
        Check.test("Promise 18: it goes on beyond the time 2000", Promise18Test::beyondTheEnd);
        Check.test("Promise 18: it changes nothing", Promise18Test::changesNothing);
        Check.end();
    }

    private static void inside() {
        CourierRelay x = Made.one(3, 0, 1, 99, 7);
        Check.is("worth(0, 0)", x.worth(0, 0), 0);
        Check.is("worth(0, 2)", x.worth(0, 2), 0);
        Check.is("worth(0, 3)", x.worth(0, 3), 7);
        Check.is("worth(0, 199)", x.worth(0, 199), 7);
        Check.is("worth(0, 200)", x.worth(0, 200), 7);
    }

    private static void outside() {
        for (int ticks : new int[] {-1, 201, Integer.MIN_VALUE, Integer.MAX_VALUE}) {
            String call = "worth(0, " + ticks + ")";
            Check.refuses(Made::some, call, Check.ARGUMENT, x -> x.worth(0, ticks));
            Check.refuses(Made::full, call, Check.ARGUMENT, x -> x.worth(0, ticks));
        }
    }

    private static void noSuchCourier() {
        for (int number : new int[] {-1, 2, 5, 6, Integer.MIN_VALUE, Integer.MAX_VALUE}) {
            Check.refuses(Made::some, "worth(" + number + ", 9)", Check.INDEX, x -> x.worth(number, 9));
        }
        Check.refuses(Made::full, "worth(6, 9)", Check.INDEX, x -> x.worth(6, 9));
        CourierRelay x = Made.couriers(5);
        x.addCourier(Check.area(12, 13), 12);
        x.give(12, 13, 99, 7);
        Check.is("worth(5, 9)", x.worth(5, 9), 7);
    }

    private static void courierFirst() {
        Check.refuses(Made::some, "worth(2, 201)", Check.INDEX, x -> x.worth(2, 201));
        Check.refuses(Made::some, "worth(-1, -1)", Check.INDEX, x -> x.worth(-1, -1));
        Check.refuses(Made::empty, "worth(0, 201)", Check.INDEX, x -> x.worth(0, 201));
    }

    private static void nothingAnyMore() {
        CourierRelay x = Made.one(3, 0, 1, 99, 7);
        x.give(1, 0, 99, 11);
        x.give(0, 1, 99, 13);
        Check.is("of the only one, all", x.worth(0, 200), 31);
        Check.is("in the ticks alone", x.worth(0, 6), 18);
        x.run(3);
        Check.is("what was paid before does not count", x.worth(0, 200), 24);
        CourierRelay y = Made.one(3, 0, 2, 99, 7);
        y.addCourier(Check.area(1, 2), 2);
        Check.is("of the first one of a relay", y.worth(0, 200), 7);
        Check.is("of the second one of a relay", y.worth(1, 200), 7);
        y.run(4);
        Check.is("of the first one, having done its part", y.worth(0, 200), 0);
    }

    private static void droppedCarried() {
        CourierRelay x = Made.one(Check.area(0, 1, 2), 0, 2, 99, 7);
        x.addCourier(Check.area(1, 2), 1);
        x.run(3);
        Check.is("carried by the first one to zone 1", Check.courier(x, 0), "7 1 0 2 0 1");
        Check.is("the second one takes what it dropped, not at once", x.worth(0, 2), 7);
        Check.is("but three ticks later", x.worth(0, 3), 0);
        CourierRelay y = Made.one(3, 0, 1, 99, 7);
        y.run(2);
        Check.is("nobody takes it", y.worth(0, 200), 7);
    }

    private static void droppedSought() {
        CourierRelay x = Made.one(3, 0, 1, 99, 7);
        x.run(1);
        x.addCourier(3, 0);
        Check.is("sought by the first one", x.courier(0, 4), 0);
        Check.is("the second one takes it, not at once", x.worth(0, 2), 7);
        Check.is("but three ticks later", x.worth(0, 3), 0);
    }

    private static void belowZero() {
        CourierRelay x = new CourierRelay();
        x.addCourier(3, 15);
        x.addCourier(3, 0);
        x.give(0, 1, 5, 11);
        Check.is("it comes late with what another one had brought in time", x.worth(0, 200), 5 - 11);
        Check.is("before it comes", x.worth(0, 3), -11);
        CourierRelay most = new CourierRelay();
        most.addCourier(3, 15);
        most.addCourier(3, 0);
        most.setGrace(0);
        most.give(0, 1, 5, 1000);
        Check.is("it never comes", most.worth(0, 200), -1000);
    }

    private static void zero() {
        CourierRelay x = Made.one(3, 0, 1, 99, 7);
        x.addCourier(3, 0);
        x.addCourier(0, 0);
        Check.is("of one who comes too late", x.worth(1, 200), 0);
        Check.is("of one without an area", x.worth(2, 200), 0);
        Check.is("of one whom another one stands in for", x.worth(0, 200), 0);
        Check.is("without parcels", Made.couriers(1).worth(0, 200), 0);
    }

    private static void beyondTheEnd() {
        for (int time : new int[] {1801, 2000}) {
            Check.answersOnly(() -> late(time), "worth(0, 200) at " + time, 0, x -> x.worth(0, 200));
        }
    }

    private static CourierRelay late(int time) {
        CourierRelay x = Made.at(time);
        x.addCourier(3, 0);
        x.give(0, 1, 999, 1000);
        return x;
    }

    private static void changesNothing() {
        Check.answersOnly(Made::some, "worth(0, 0)", 0, x -> x.worth(0, 0));
        Check.answersOnly(Made::some, "worth(0, 200)", 9, x -> x.worth(0, 200));
        Check.answersOnly(Made::some, "worth(1, 200)", 9, x -> x.worth(1, 200));
        CourierRelay x = Made.some();
        x.worth(0, 200);
        Check.is("asked again", x.worth(0, 200), 9);
        Check.is("it carries still", Check.courier(x, 0), "7 1 6 2 3 3");
    }
}
