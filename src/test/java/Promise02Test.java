/** Promise 2, addCourier: a test for each sentence about a boundary. */
public final class Promise02Test {
    public static void main(String[] args) {
        Check.test("Promise 2: area is 0 to 65535", Promise02Test::areaInside);
        Check.test("Promise 2: IllegalArgumentException if area is out of range", Promise02Test::areaOutside);
        Check.test("Promise 2: zone is 0 to 15", Promise02Test::zoneInside);
        Check.test("Promise 2: IllegalArgumentException if zone is out of range", Promise02Test::zoneOutside);
        Check.test("Promise 2: returns the number, from 0 on", Promise02Test::numbers);
        Check.test("Promise 2: IllegalStateException if there are 6 couriers", Promise02Test::sixAtMost);
        Check.test("Promise 2: the wrong argument comes before the full exchange", Promise02Test::argumentFirst);
        Check.test("Promise 2: the courier is free", Promise02Test::free);
        Check.test("Promise 2: bit z stands for the zone z", Promise02Test::bits);
        Check.test("Promise 2: its zone need not be in its area", Promise02Test::zoneOutOfArea);
        Check.test("Promise 2: undoable", Promise02Test::undoable);
        Check.test("Promise 2: a place that undo made free is taken again", Promise02Test::placeAgain);
        Check.end();
    }

    private static void areaInside() {
        for (int area : new int[] {0, 1, 2, 32767, 32768, 65534, 65535}) {
            CourierRelay x = new CourierRelay();
            Check.is("addCourier(" + area + ", 0)", x.addCourier(area, 0), 0);
            Check.is("its area", x.courier(0, 0), area);
        }
    }

    private static void areaOutside() {
        for (int area : new int[] {-1, 65536, 65537, 131071, -65535, Integer.MIN_VALUE, Integer.MAX_VALUE}) {
            Check.refuses(Made::empty, "addCourier(" + area + ", 0)", Check.ARGUMENT, x -> x.addCourier(area, 0));
            Check.refuses(Made::some, "addCourier(" + area + ", 5)", Check.ARGUMENT, x -> x.addCourier(area, 5));
        }
    }

    private static void zoneInside() {
        for (int zone : new int[] {0, 1, 14, 15}) {
            CourierRelay x = new CourierRelay();
            Check.is("addCourier(1, " + zone + ")", x.addCourier(1, zone), 0);
            Check.is("its zone", x.courier(0, 1), zone);
        }
    }

    private static void zoneOutside() {
        for (int zone : new int[] {-1, 16, 17, Integer.MIN_VALUE, Integer.MAX_VALUE}) {
            Check.refuses(Made::empty, "addCourier(0, " + zone + ")", Check.ARGUMENT, x -> x.addCourier(0, zone));
            Check.refuses(Made::some, "addCourier(9, " + zone + ")", Check.ARGUMENT, x -> x.addCourier(9, zone));
        }
        Check.refuses(Made::some, "addCourier(-1, 16)", Check.ARGUMENT, x -> x.addCourier(-1, 16));
    }

    private static void numbers() {
        CourierRelay x = new CourierRelay();
        for (int c = 0; c < 6; c++) {
            Check.is("addCourier no. " + c, x.addCourier(100 + c, 10 + c), c);
            Check.is("couriers then", x.value(1), c + 1);
        }
        for (int c = 0; c < 6; c++) {
            Check.is("courier " + c, Check.courier(x, c), (100 + c) + " " + (10 + c) + " 0 0 -1 0");
        }
    }

    private static void sixAtMost() {
        Check.is("the sixth one", Made.couriers(5).addCourier(1, 1), 5);
        Check.refuses(() -> Made.couriers(6), "a seventh one", Check.STATE, x -> x.addCourier(1, 1));
        Check.refuses(Made::full, "a seventh one with much behind it", Check.STATE, x -> x.addCourier(0, 0));
    }

    private static void argumentFirst() {
        Check.refuses(Made::full, "addCourier(-1, 0)", Check.ARGUMENT, x -> x.addCourier(-1, 0));
        Check.refuses(Made::full, "addCourier(65536, 0)", Check.ARGUMENT, x -> x.addCourier(65536, 0));
        Check.refuses(Made::full, "addCourier(0, -1)", Check.ARGUMENT, x -> x.addCourier(0, -1));
        Check.refuses(Made::full, "addCourier(0, 16)", Check.ARGUMENT, x -> x.addCourier(0, 16));
    }

    private static void free() {
        CourierRelay x = Made.some();
        Check.is("addCourier(65535, 7)", x.addCourier(65535, 7), 2);
        Check.is("courier 2", Check.courier(x, 2), "65535 7 0 0 -1 0");
        Check.is("drop(2)", x.drop(2), -1);
    }

    private static void bits() {
        for (int zone = 0; zone < 16; zone++) {
            int beside = zone % 4 == 3 ? zone - 1 : zone + 1;
            CourierRelay x = new CourierRelay();
            x.addCourier(Check.area(zone, beside), 0);
            x.addCourier(65535 - Check.area(zone), 0);
            x.give(zone, beside, 100, 1);
            Check.is("suited(0) in zone " + zone, x.suited(0), 1);
        }
    }

    private static void zoneOutOfArea() {
        CourierRelay x = new CourierRelay();
        x.addCourier(0, 15);
        x.addCourier(1, 15);
        Check.is("courier 0", Check.courier(x, 0), "0 15 0 0 -1 0");
        Check.is("courier 1", Check.courier(x, 1), "1 15 0 0 -1 0");
    }

    private static void undoable() {
        Check.undoable(Made::empty, "addCourier(0, 0)", x -> x.addCourier(0, 0));
        Check.undoable(Made::some, "addCourier(65535, 15)", x -> x.addCourier(65535, 15));
    }

    private static void placeAgain() {
        CourierRelay x = Made.couriers(6);
        x.undo();
        Check.is("couriers", x.value(1), 5);
        Check.fails("courier(5, 0)", Check.INDEX, () -> x.courier(5, 0));
        Check.is("addCourier(9, 8)", x.addCourier(9, 8), 5);
        Check.is("courier 5", Check.courier(x, 5), "9 8 0 0 -1 0");
        Check.fails("another one", Check.STATE, () -> x.addCourier(9, 8));
    }
}
