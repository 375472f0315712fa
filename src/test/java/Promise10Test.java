/** Promise 10, parcel: a test for each value and for each sentence about a boundary. */
public final class Promise10Test {
    public static void main(String[] args) {
        Check.test("Promise 10: what is 0 to 8", Promise10Test::inside);
        Check.test("Promise 10: IllegalArgumentException if what is out of range", Promise10Test::outside);
        Check.test("Promise 10: IndexOutOfBoundsException if there is no such parcel", Promise10Test::noSuchParcel);
        Check.test("Promise 10: the parcel comes before what", Promise10Test::parcelFirst);
        Check.test("Promise 10: 4 and 5, the state and the zone in which it is", Promise10Test::stateAndZone);
        Check.test("Promise 10: 5 of a failed one the zone in which it was then", Promise10Test::failedZone);
        Check.test("Promise 10: 6 NONE if it was not delivered", Promise10Test::deliveredAt);
        Check.test("Promise 10: 7 what was paid for it", Promise10Test::paid);
        Check.test("Promise 10: 8 the sum of its legs", Promise10Test::legs);
        Check.end();
    }

    private static void inside() {
        String[][] parcels = {"0 3 50 9 2 3 8 9 3".split(" "), "8 9 1 5 3 8 -1 0 0".split(" "),
            "8 9 60 5 0 8 -1 0 0".split(" "), "0 3 60 9 1 1 -1 0 1".split(" ")};
        for (int p = 0; p < 4; p++) {
            for (int what = 0; what <= 8; what++) {
                int parcel = p;
                int asked = what;
                int due = Integer.parseInt(parcels[p][what]);
                Check.answersOnly(Made::some, "parcel(" + p + ", " + what + ")", due, x -> x.parcel(parcel, asked));
            }
        }
    }

    private static void outside() {
        for (int what : new int[] {-1, 9, 10, Integer.MIN_VALUE, Integer.MAX_VALUE}) {
            Check.refuses(Made::some, "parcel(0, " + what + ")", Check.ARGUMENT, x -> x.parcel(0, what));
            Check.refuses(Made::full, "parcel(23, " + what + ")", Check.ARGUMENT, x -> x.parcel(23, what));
        }
    }

    private static void noSuchParcel() {
        for (int number : new int[] {-1, 4, 23, 24, Integer.MIN_VALUE, Integer.MAX_VALUE}) {
            Check.refuses(Made::some, "parcel(" + number + ", 0)", Check.INDEX, x -> x.parcel(number, 0));
        }
        Check.refuses(Made::full, "parcel(24, 0)", Check.INDEX, x -> x.parcel(24, 0));
        Check.is("parcel(23, 3) of 24", Made.parcels(24).parcel(23, 3), 23);
        CourierRelay undone = Made.parcels(2);
        undone.undo();
        Check.fails("parcel(1, 0), it being undone", Check.INDEX, () -> undone.parcel(1, 0));
    }

    private static void parcelFirst() {
        Check.refuses(Made::some, "parcel(4, 9)", Check.INDEX, x -> x.parcel(4, 9));
        Check.refuses(Made::some, "parcel(-1, -1)", Check.INDEX, x -> x.parcel(-1, -1));
        Check.refuses(Made::empty, "parcel(0, 9)", Check.INDEX, x -> x.parcel(0, 9));
    }

    private static void stateAndZone() {
        CourierRelay x = Made.one(Check.area(0, 1, 2), 0, 3, 99, 5);
        String[] due = {"0 0", "1 0", "1 1", "1 2", "0 2", "0 2"};
        Check.is("given", x.parcel(0, 4) + " " + x.parcel(0, 5), "0 0");
        for (int k = 0; k < due.length; k++) {
            x.run(1);
            Check.is("at " + (k + 1), x.parcel(0, 4) + " " + x.parcel(0, 5), due[k]);
        }
        x.setArea(0, Check.area(2, 3));
        x.run(3);
        Check.is("delivered", x.parcel(0, 4) + " " + x.parcel(0, 5), "2 3");
    }

    private static void failedZone() {
        CourierRelay x = Made.one(Made.ALL, 0, 15, 4, 5);
        x.setGrace(0);
        x.run(5);
        Check.is("carried", x.parcel(0, 4) + " " + x.parcel(0, 5), "3 3");
        x.give(12, 13, 99, 5);
        x.run(50);
        Check.is("its courier went on", x.courier(0, 1), 13);
        Check.is("it stays there", x.parcel(0, 4) + " " + x.parcel(0, 5), "3 3");
        CourierRelay y = Made.one(0, 7, 15, 4, 5);
        y.run(50);
        Check.is("waiting in its origin", y.parcel(0, 4) + " " + y.parcel(0, 5), "3 7");
    }

    private static void deliveredAt() {
        CourierRelay x = Made.one(3, 0, 1, 99, 5);
        x.run(2);
        Check.is("carried", x.parcel(0, 6), -1);
        x.run(100);
        Check.is("delivered long ago", x.parcel(0, 6), 3);
        CourierRelay y = Made.one(3, 0, 2, 99, 5);
        y.run(4);
        Check.is("handed over", y.parcel(0, 6), -1);
        y.run(150);
        Check.is("failed", y.parcel(0, 6), -1);
    }

    private static void paid() {
        CourierRelay x = Made.one(3, 0, 1, 3, 7);
        x.give(1, 0, 5, 7);
        x.give(9, 8, 3, 7);
        Check.is("waiting", x.parcel(0, 7), 0);
        x.run(50);
        Check.is("in time, late, failed", x.parcel(0, 7) + " " + x.parcel(1, 7) + " " + x.parcel(2, 7), "7 3 0");
        Check.is("their tips", x.parcel(0, 3) + " " + x.parcel(1, 3) + " " + x.parcel(2, 3), "7 7 7");
    }

    private static void legs() {
        CourierRelay x = new CourierRelay();
        x.addCourier(3, 0);
        x.addCourier(Made.ALL - 1, 1);
        x.give(0, 15, 99, 7);
        int[] due = {0, 0, 1, 1, 1, 2, 3, 4, 5, 6, 6};
        for (int k = 0; k < due.length; k++) {
            x.run(1);
            Check.is("at " + (k + 1), x.parcel(0, 8), due[k]);
        }
        Check.is("by each", Check.legs(x, 0, false), "1 5");
    }
}
