/** Promise 8, value: a test for each number and for each sentence about a boundary. */
public final class Promise08Test {
    public static void main(String[] args) {
        Check.test("Promise 8: what is 0 to 10", Promise08Test::inside);
        Check.test("Promise 8: IllegalArgumentException if what is out of range", Promise08Test::outside);
        Check.test("Promise 8: 0 the time", Promise08Test::time);
        Check.test("Promise 8: 1 and 2 the couriers and parcels, none to all", Promise08Test::counts);
        Check.test("Promise 8: 3 the grace", Promise08Test::grace);
        Check.test("Promise 8: 4 to 7 the parcels in the state 0 to 3", Promise08Test::states);
        Check.test("Promise 8: 8 what customers have paid", Promise08Test::paid);
        Check.test("Promise 8: 9 the handovers in ticks, not those by drop()", Promise08Test::handovers);
        Check.test("Promise 8: 10 the moves, on the way and carrying", Promise08Test::moves);
        Check.end();
    }

    private static void inside() {
        String[] values = "25 2 4 1 1 1 1 1 9 1 7".split(" ");
        for (int what = 0; what <= 10; what++) {
            int asked = what;
            int due = Integer.parseInt(values[what]);
            Check.answersOnly(Made::some, "value(" + what + ")", due, x -> x.value(asked));
        }
    }

    private static void outside() {
        for (int what : new int[] {-1, 11, 12, Integer.MIN_VALUE, Integer.MAX_VALUE}) {
            Check.refuses(Made::empty, "value(" + what + ")", Check.ARGUMENT, x -> x.value(what));
            Check.refuses(Made::some, "value(" + what + ")", Check.ARGUMENT, x -> x.value(what));
            Check.refuses(Made::full, "value(" + what + ")", Check.ARGUMENT, x -> x.value(what));
        }
    }

    private static void time() {
        Check.is("at the beginning", Made.at(0).value(0), 0);
        Check.is("at the end", Made.at(2000).value(0), 2000);
    }

    private static void counts() {
        for (int count = 0; count <= 6; count++) {
            Check.is("couriers", Made.couriers(count).value(1), count);
        }
        for (int count : new int[] {0, 1, 23, 24}) {
            Check.is("parcels", Made.parcels(count).value(2), count);
            Check.is("parcels that wait", Made.parcels(count).value(4), count);
        }
    }

    private static void grace() {
        CourierRelay x = new CourierRelay();
        Check.is("initially", x.value(3), 10);
        x.setGrace(0);
        Check.is("the least", x.value(3), 0);
        x.setGrace(100);
        Check.is("the greatest", x.value(3), 100);
    }

    private static String statesOf(CourierRelay x) {
        return x.value(4) + " " + x.value(5) + " " + x.value(6) + " " + x.value(7);
    }

    private static void states() {
        CourierRelay x = Made.one(Check.area(0, 1, 2), 0, 2, 99, 5);
        Check.is("given", statesOf(x), "1 0 0 0");
        x.run(1);
        Check.is("chosen", statesOf(x), "1 0 0 0");
        x.run(1);
        Check.is("taken", statesOf(x), "0 1 0 0");
        x.run(1);
        Check.is("carried on", statesOf(x), "0 1 0 0");
        x.drop(0);
        Check.is("dropped", statesOf(x), "1 0 0 0");
        x.undo();
        x.run(1);
        Check.is("delivered", statesOf(x), "0 0 1 0");
        x.give(9, 8, 1, 1);
        x.run(20);
        Check.is("another one failed", statesOf(x), "0 0 1 1");
        CourierRelay y = Made.parcels(24);
        y.setGrace(0);
        for (int k = 0; k < 5; k++) {
            y.run(200);
        }
        Check.is("24 failed", statesOf(y), "0 0 0 24");
    }

    private static void paid() {
        CourierRelay x = Made.one(3, 0, 1, 3, 1000);
        x.give(1, 0, 5, 1000);
        x.run(2);
        Check.is("before the first one", x.value(8), 0);
        x.run(1);
        Check.is("the first one, in time", x.value(8), 1000);
        x.run(3);
        Check.is("the second one, late", x.value(8), 1500);
        Check.is("what the courier has got", x.courier(0, 2), 1500);
    }

    private static void handovers() {
        CourierRelay x = Made.one(3, 0, 2, 99, 5);
        x.run(3);
        x.drop(0);
        Check.is("dropped", x.value(9), 0);
        x.undo();
        x.run(1);
        Check.is("handed over", x.value(9), 1);
        x.run(20);
        Check.is("once alone, nobody takes it on", x.value(9), 1);
        CourierRelay y = Made.one(3, 0, 1, 99, 5);
        y.run(9);
        Check.is("delivered", y.value(9), 0);
        CourierRelay z = Made.one(Made.ALL, 0, 3, 2, 5);
        z.setGrace(1);
        z.run(9);
        Check.is("failed while carried", z.parcel(0, 4) + " " + z.value(9), "3 0");
    }

    private static void moves() {
        CourierRelay x = Made.one(Check.area(2, 3), 2, 3, 99, 5);
        int[] due = {0, 1, 2, 2, 3, 3};
        for (int k = 0; k < due.length; k++) {
            x.run(1);
            Check.is("moves at " + (k + 1), x.value(10), due[k]);
        }
        CourierRelay y = Made.one(3, 0, 2, 99, 5);
        y.run(4);
        Check.is("no move in a handover", y.value(10), 1);
        y.undo();
        Check.is("moves after undo", y.value(10), 0);
    }
}
