/** Promise 4, give: a test for each sentence about a boundary. */
public final class Promise04Test {
    public static void main(String[] args) {
        Check.test("Promise 4: origin and destination are 0 to 15", Promise04Test::zonesInside);
        Check.test("Promise 4: IllegalArgumentException if origin is out of range", Promise04Test::originOutside);
        Check.test("Promise 4: IllegalArgumentException if destination is out of range",
                Promise04Test::destinationOutside);
        Check.test("Promise 4: IllegalArgumentException if destination equals origin", Promise04Test::sameZone);
        Check.test("Promise 4: cutOff is 1 to 999", Promise04Test::cutOffInside);
        Check.test("Promise 4: IllegalArgumentException if cutOff is out of range", Promise04Test::cutOffOutside);
        Check.test("Promise 4: tip is 0 to 1000", Promise04Test::tipInside);
        Check.test("Promise 4: IllegalArgumentException if tip is out of range", Promise04Test::tipOutside);
        Check.test("Promise 4: returns the number, in the order in which they are given", Promise04Test::numbers);
        Check.test("Promise 4: IllegalStateException if there are 24 parcels", Promise04Test::atMost24);
        Check.test("Promise 4: delivered and failed parcels count among the 24", Promise04Test::endedOnesCount);
        Check.test("Promise 4: the wrong argument comes before the full exchange", Promise04Test::argumentFirst);
        Check.test("Promise 4: a parcel waits in its origin initially, without legs", Promise04Test::initially);
        Check.test("Promise 4: a cut-off that is over is a cut-off", Promise04Test::cutOffOver);
        Check.test("Promise 4: undoable", Promise04Test::undoable);
        Check.end();
    }

    private static void zonesInside() {
        for (int zone = 0; zone < 16; zone++) {
            CourierRelay x = new CourierRelay();
            int other = 15 - zone;
            Check.is("give(" + zone + ", " + other + ", 5, 6)", x.give(zone, other, 5, 6), 0);
            Check.is("the parcel", Check.parcel(x, 0), zone + " " + other + " 5 6 0 " + zone + " -1 0 0");
        }
    }

    private static void originOutside() {
        for (int zone : new int[] {-1, 16, Integer.MIN_VALUE, Integer.MAX_VALUE}) {
            Check.refuses(Made::empty, "give(" + zone + ", 1, 5, 6)", Check.ARGUMENT, x -> x.give(zone, 1, 5, 6));
            Check.refuses(Made::some, "give(" + zone + ", 0, 5, 6)", Check.ARGUMENT, x -> x.give(zone, 0, 5, 6));
        }
    }

    private static void destinationOutside() {
        for (int zone : new int[] {-1, 16, Integer.MIN_VALUE, Integer.MAX_VALUE}) {
            Check.refuses(Made::empty, "give(1, " + zone + ", 5, 6)", Check.ARGUMENT, x -> x.give(1, zone, 5, 6));
            Check.refuses(Made::some, "give(0, " + zone + ", 5, 6)", Check.ARGUMENT, x -> x.give(0, zone, 5, 6));
        }
    }

    private static void sameZone() {
        for (int zone = 0; zone < 16; zone++) {
            int same = zone;
            String call = "give(" + zone + ", " + zone + ", 5, 6)";
            Check.refuses(Made::some, call, Check.ARGUMENT, x -> x.give(same, same, 5, 6));
        }
    }

    private static void cutOffInside() {
        for (int cutOff : new int[] {1, 2, 998, 999}) {
            CourierRelay x = new CourierRelay();
            Check.is("give(0, 1, " + cutOff + ", 6)", x.give(0, 1, cutOff, 6), 0);
            Check.is("its cut-off", x.parcel(0, 2), cutOff);
        }
    }

    private static void cutOffOutside() {
        for (int cutOff : new int[] {0, -1, 1000, 1001, Integer.MIN_VALUE, Integer.MAX_VALUE}) {
            String call = "give(0, 1, " + cutOff + ", 6)";
            Check.refuses(Made::empty, call, Check.ARGUMENT, x -> x.give(0, 1, cutOff, 6));
            Check.refuses(Made::some, call, Check.ARGUMENT, x -> x.give(0, 1, cutOff, 6));
        }
    }

    private static void tipInside() {
        for (int tip : new int[] {0, 1, 999, 1000}) {
            CourierRelay x = new CourierRelay();
            Check.is("give(0, 1, 5, " + tip + ")", x.give(0, 1, 5, tip), 0);
            Check.is("its tip", x.parcel(0, 3), tip);
        }
    }

    private static void tipOutside() {
        for (int tip : new int[] {-1, 1001, Integer.MIN_VALUE, Integer.MAX_VALUE}) {
            String call = "give(0, 1, 5, " + tip + ")";
            Check.refuses(Made::empty, call, Check.ARGUMENT, x -> x.give(0, 1, 5, tip));
            Check.refuses(Made::some, call, Check.ARGUMENT, x -> x.give(0, 1, 5, tip));
        }
    }

    private static void numbers() {
        CourierRelay x = new CourierRelay();
        for (int p = 0; p < 24; p++) {
            Check.is("give no. " + p, x.give(p % 16, (p + 3) % 16, 100 + p, 200 + p), p);
            Check.is("parcels then", x.value(2), p + 1);
        }
        for (int p = 0; p < 24; p++) {
            Check.is("parcel " + p, x.parcel(p, 0) + " " + x.parcel(p, 1) + " " + x.parcel(p, 2) + " " + x.parcel(p, 3),
                    p % 16 + " " + (p + 3) % 16 + " " + (100 + p) + " " + (200 + p));
        }
    }

    private static void atMost24() {
        Check.is("the last one", Made.parcels(23).give(1, 2, 3, 4), 23);
        Check.refuses(() -> Made.parcels(24), "a 25th one", Check.STATE, x -> x.give(1, 2, 3, 4));
        Check.refuses(Made::full, "a 25th one with much behind it", Check.STATE, x -> x.give(0, 15, 999, 1000));
        CourierRelay undone = Made.parcels(24);
        undone.undo();
        Check.is("the last one, once more", undone.give(1, 2, 3, 4), 23);
        Check.fails("a 25th one, once more", Check.STATE, () -> undone.give(1, 2, 3, 4));
    }

    private static void endedOnesCount() {
        CourierRelay x = new CourierRelay();
        x.addCourier(3, 0);
        x.give(0, 1, 9, 1);
        x.run(3);
        for (int p = 1; p < 24; p++) {
            x.give(9, 8, 1, 1);
        }
        x.run(20);
        Check.is("values", Check.values(x), "23 1 24 10 0 0 1 23 1 0 1");
        Check.fails("a 25th one", Check.STATE, () -> x.give(0, 1, 9, 1));
    }

    private static void argumentFirst() {
        Check.refuses(Made::full, "give(-1, 1, 1, 0)", Check.ARGUMENT, x -> x.give(-1, 1, 1, 0));
        Check.refuses(Made::full, "give(0, 16, 1, 0)", Check.ARGUMENT, x -> x.give(0, 16, 1, 0));
        Check.refuses(Made::full, "give(2, 2, 1, 0)", Check.ARGUMENT, x -> x.give(2, 2, 1, 0));
        Check.refuses(Made::full, "give(0, 1, 0, 0)", Check.ARGUMENT, x -> x.give(0, 1, 0, 0));
        Check.refuses(Made::full, "give(0, 1, 1000, 0)", Check.ARGUMENT, x -> x.give(0, 1, 1000, 0));
        Check.refuses(Made::full, "give(0, 1, 1, 1001)", Check.ARGUMENT, x -> x.give(0, 1, 1, 1001));
        Check.refuses(Made::full, "give(0, 1, 1, -1)", Check.ARGUMENT, x -> x.give(0, 1, 1, -1));
    }

    private static void initially() {
        CourierRelay x = Made.some();
        Check.is("give(15, 0, 999, 1000)", x.give(15, 0, 999, 1000), 4);
        Check.is("the parcel", Check.parcel(x, 4), "15 0 999 1000 0 15 -1 0 0");
        Check.is("its legs", Check.legs(x, 4, false), "0 0");
        Check.is("its shares", Check.legs(x, 4, true), "0 0");
    }

    private static void cutOffOver() {
        CourierRelay x = Made.at(50);
        Check.is("give(0, 1, 1, 9)", x.give(0, 1, 1, 9), 0);
        Check.is("it waits until the next tick", x.parcel(0, 4), 0);
        x.run(0);
        Check.is("it waits still", x.parcel(0, 4), 0);
        x.run(1);
        Check.is("it failed", x.parcel(0, 4), 3);
        CourierRelay y = Made.at(50);
        y.addCourier(3, 0);
        y.give(0, 1, 49, 9);
        y.run(3);
        Check.is("it came late", Check.parcel(y, 0), "0 1 49 9 2 1 53 4 1");
    }

    private static void undoable() {
        Check.undoable(Made::empty, "give(0, 1, 1, 0)", x -> x.give(0, 1, 1, 0));
        Check.undoable(Made::some, "give(15, 0, 999, 1000)", x -> x.give(15, 0, 999, 1000));
    }
}
