/** Promise 6, drop: a test for each sentence about a boundary. */
public final class Promise06Test {
    public static void main(String[] args) {
        Check.test("Promise 6: NONE if it was free", Promise06Test::free);
        Check.test("Promise 6: the parcel to which it was on the way", Promise06Test::onTheWay);
        Check.test("Promise 6: a parcel that it carries waits in its zone", Promise06Test::carrying);
        Check.test("Promise 6: a parcel that it has just taken", Promise06Test::justTaken);
        Check.test("Promise 6: the parcels 0 and 23", Promise06Test::firstAndLast);
        Check.test("Promise 6: what it dropped may be chosen again", Promise06Test::chosenAgain);
        Check.test("Promise 6: no time passes, no move and no handover", Promise06Test::nothingElse);
        Check.test("Promise 6: IndexOutOfBoundsException if there is no such courier", Promise06Test::noSuchCourier);
        Check.test("Promise 6: undoable, even if it was free", Promise06Test::undoable);
        Check.end();
    }

    private static void free() {
        CourierRelay x = Made.some();
        Check.is("drop(1)", x.drop(1), -1);
        Check.is("courier 1", Check.courier(x, 1), "12 3 3 0 -1 1");
        CourierRelay delivered = Made.one(3, 0, 1, 9, 5);
        delivered.run(3);
        Check.is("drop(0), having delivered", delivered.drop(0), -1);
        Check.is("parcel 0", Check.parcel(delivered, 0), "0 1 9 5 2 1 3 5 1");
        CourierRelay failed = Made.one(Made.ALL, 0, 3, 1, 5);
        failed.setGrace(2);
        failed.run(4);
        Check.is("drop(0), its parcel having failed", failed.drop(0), -1);
        Check.is("parcel 0", Check.parcel(failed, 0), "0 3 1 5 3 2 -1 0 2");
        CourierRelay over = Made.one(3, 0, 2, 99, 5);
        over.run(4);
        Check.is("drop(0), having handed over", over.drop(0), -1);
    }

    private static void onTheWay() {
        CourierRelay x = Made.one(Check.area(2, 3), 2, 3, 99, 5);
        x.run(2);
        Check.is("courier 0", Check.courier(x, 0), "12 1 0 1 0 0");
        Check.is("drop(0)", x.drop(0), 0);
        Check.is("courier 0 then", Check.courier(x, 0), "12 1 0 0 -1 0");
        Check.is("parcel 0 then", Check.parcel(x, 0), "2 3 99 5 0 2 -1 0 0");
        Check.is("drop(0) again", x.drop(0), -1);
    }

    private static void carrying() {
        CourierRelay x = Made.one(Check.area(0, 1, 2), 0, 2, 99, 5);
        x.run(3);
        Check.is("drop(0)", x.drop(0), 0);
        Check.is("courier 0 then", Check.courier(x, 0), "7 1 0 0 -1 1");
        Check.is("parcel 0 then", Check.parcel(x, 0), "0 2 99 5 0 1 -1 0 1");
        Check.is("drop(0) again", x.drop(0), -1);
    }

    private static void justTaken() {
        CourierRelay x = Made.one(3, 0, 1, 99, 5);
        x.run(2);
        Check.is("parcel 0", Check.parcel(x, 0), "0 1 99 5 1 0 -1 0 0");
        Check.is("drop(0)", x.drop(0), 0);
        Check.is("parcel 0 then", Check.parcel(x, 0), "0 1 99 5 0 0 -1 0 0");
    }

    private static void firstAndLast() {
        CourierRelay x = Made.parcels(23);
        x.addCourier(Made.ALL, 5);
        x.give(5, 6, 899, 1);
        x.run(1);
        Check.is("drop(0), on the way", x.drop(0), 23);
        x.run(2);
        Check.is("drop(0), carrying", x.drop(0), 23);
        CourierRelay y = Made.parcels(23);
        y.addCourier(Made.ALL, 0);
        y.run(1);
        Check.is("drop(0), on the way to the first one", y.drop(0), 0);
        y.run(2);
        Check.is("drop(0), carrying the first one", y.drop(0), 0);
    }

    private static void chosenAgain() {
        CourierRelay x = Made.one(3, 0, 1, 99, 5);
        x.run(2);
        x.drop(0);
        x.run(1);
        Check.is("by itself", Check.courier(x, 0), "3 0 0 1 0 0");
        CourierRelay y = Made.one(3, 0, 1, 99, 5);
        y.run(1);
        y.addCourier(3, 1);
        y.drop(0);
        y.setArea(0, 0);
        y.run(1);
        Check.is("by another one", Check.courier(y, 1), "3 1 0 1 0 0");
    }

    private static void nothingElse() {
        CourierRelay x = Made.one(Check.area(0, 1, 2), 0, 2, 99, 5);
        x.run(3);
        Check.is("values", Check.values(x), "3 1 1 10 0 1 0 0 0 0 1");
        x.drop(0);
        Check.is("values then", Check.values(x), "3 1 1 10 1 0 0 0 0 0 1");
        CourierRelay sought = Made.one(Check.area(2, 3), 2, 3, 99, 5);
        sought.run(2);
        Check.is("values, on the way", Check.values(sought), "2 1 1 10 1 0 0 0 0 0 1");
        sought.drop(0);
        Check.is("values then, on the way", Check.values(sought), "2 1 1 10 1 0 0 0 0 0 1");
        sought.drop(0);
        Check.is("values then, free", Check.values(sought), "2 1 1 10 1 0 0 0 0 0 1");
        CourierRelay y = Made.some();
        y.drop(0);
        Check.is("values of some", Check.values(y), "25 2 4 1 2 0 1 1 9 1 7");
        Check.is("courier 1", Check.courier(y, 1), "12 3 3 0 -1 1");
        Check.is("parcel 2", Check.parcel(y, 2), "8 9 60 5 0 8 -1 0 0");
        Check.is("parcel 3", Check.parcel(y, 3), "0 3 60 9 0 1 -1 0 1");
    }

    private static void noSuchCourier() {
        for (int number : new int[] {-1, 2, 5, 6, Integer.MIN_VALUE, Integer.MAX_VALUE}) {
            Check.refuses(Made::some, "drop(" + number + ")", Check.INDEX, x -> x.drop(number));
        }
        Check.refuses(Made::full, "drop(6)", Check.INDEX, x -> x.drop(6));
        Check.is("drop(5) of six", Made.couriers(6).drop(5), -1);
    }

    private static void undoable() {
        Check.undoable(Made::some, "drop(0), carrying", x -> x.drop(0));
        Check.undoable(Made::some, "drop(1), free", x -> x.drop(1));
        CourierRelay x = Made.one(3, 0, 1, 99, 5);
        x.run(1);
        x.drop(0);
        x.undo();
        Check.is("on the way again", Check.courier(x, 0), "3 0 0 1 0 0");
    }
}
