/** Promise 9, courier: a test for each value and for each sentence about a boundary. */
public final class Promise09Test {
    public static void main(String[] args) {
        Check.test("Promise 9: what is 0 to 5", Promise09Test::inside);
        Check.test("Promise 9: IllegalArgumentException if what is out of range", Promise09Test::outside);
        Check.test("Promise 9: IndexOutOfBoundsException if there is no such courier", Promise09Test::noSuchCourier);
        Check.test("Promise 9: the courier comes before what", Promise09Test::courierFirst);
        Check.test("Promise 9: 3 and 4, what it does and with which parcel", Promise09Test::doing);
        Check.test("Promise 9: 4 the last parcel", Promise09Test::lastParcel);
        Check.test("Promise 9: 5 the legs of all parcels, delivered or not", Promise09Test::allLegs);
        Check.end();
    }

    private static void inside() {
        String[] first = "7 1 6 2 3 3".split(" ");
        String[] second = "12 3 3 0 -1 1".split(" ");
        for (int what = 0; what <= 5; what++) {
            int asked = what;
            int due = Integer.parseInt(first[what]);
            int dueThen = Integer.parseInt(second[what]);
            Check.answersOnly(Made::some, "courier(0, " + what + ")", due, x -> x.courier(0, asked));
            Check.answersOnly(Made::some, "courier(1, " + what + ")", dueThen, x -> x.courier(1, asked));
        }
    }

    private static void outside() {
        for (int what : new int[] {-1, 6, 7, Integer.MIN_VALUE, Integer.MAX_VALUE}) {
            Check.refuses(Made::some, "courier(0, " + what + ")", Check.ARGUMENT, x -> x.courier(0, what));
            Check.refuses(Made::full, "courier(5, " + what + ")", Check.ARGUMENT, x -> x.courier(5, what));
        }
    }

    private static void noSuchCourier() {
        for (int number : new int[] {-1, 2, 5, 6, Integer.MIN_VALUE, Integer.MAX_VALUE}) {
            Check.refuses(Made::some, "courier(" + number + ", 0)", Check.INDEX, x -> x.courier(number, 0));
        }
        Check.refuses(Made::full, "courier(6, 0)", Check.INDEX, x -> x.courier(6, 0));
        Check.is("courier(5, 1) of six", Made.couriers(6).courier(5, 1), 5);
        CourierRelay undone = Made.couriers(2);
        undone.undo();
        Check.fails("courier(1, 0), it being undone", Check.INDEX, () -> undone.courier(1, 0));
    }

    private static void courierFirst() {
        Check.refuses(Made::some, "courier(2, 6)", Check.INDEX, x -> x.courier(2, 6));
        Check.refuses(Made::some, "courier(-1, -1)", Check.INDEX, x -> x.courier(-1, -1));
        Check.refuses(Made::empty, "courier(0, 6)", Check.INDEX, x -> x.courier(0, 6));
    }

    private static void doing() {
        CourierRelay x = Made.one(3, 0, 1, 99, 5);
        Check.is("free", x.courier(0, 3) + " " + x.courier(0, 4), "0 -1");
        x.run(1);
        Check.is("on the way", x.courier(0, 3) + " " + x.courier(0, 4), "1 0");
        x.run(1);
        Check.is("carrying", x.courier(0, 3) + " " + x.courier(0, 4), "2 0");
        x.run(1);
        Check.is("free again", x.courier(0, 3) + " " + x.courier(0, 4), "0 -1");
    }

    private static void lastParcel() {
        CourierRelay x = Made.parcels(23);
        x.addCourier(Check.area(9, 10), 9);
        x.give(9, 10, 1, 1);
        x.run(1);
        Check.is("on the way to the parcel 23", x.courier(0, 3) + " " + x.courier(0, 4), "1 23");
        x.run(1);
        Check.is("carrying the parcel 23", x.courier(0, 3) + " " + x.courier(0, 4), "2 23");
    }

    private static void allLegs() {
        CourierRelay x = Made.one(Made.ALL, 0, 1, 50, 5);
        x.give(1, 3, 60, 5);
        x.run(3);
        Check.is("after a delivered one", x.courier(0, 5), 1);
        x.run(3);
        Check.is("and a leg of a carried one", x.courier(0, 5), 2);
        x.drop(0);
        Check.is("that is dropped", x.courier(0, 5), 2);
        x.setArea(0, 0);
        x.run(100);
        Check.is("and has failed", x.parcel(1, 4) + " " + x.courier(0, 5), "3 2");
        CourierRelay y = new CourierRelay();
        y.addCourier(Made.ALL, 0);
        for (int p = 0; p < 24; p++) {
            y.give(p % 2 == 0 ? 0 : 15, p % 2 == 0 ? 15 : 0, 100 + 20 * p, 0);
        }
        y.run(200);
        Check.is("24 times 6 legs", y.value(6) + " " + y.courier(0, 5), "24 144");
    }
}
