/** Promise 11, legs: a test for each sentence about a boundary. */
public final class Promise11Test {
    public static void main(String[] args) {
        Check.test("Promise 11: the legs, the share", Promise11Test::inside);
        Check.test("Promise 11: IndexOutOfBoundsException if there is no such parcel", Promise11Test::noSuchParcel);
        Check.test("Promise 11: IndexOutOfBoundsException if there is no such courier", Promise11Test::noSuchCourier);
        Check.test("Promise 11: the share is 0 as long as it is not delivered", Promise11Test::notDelivered);
        Check.test("Promise 11: the share is of what was paid", Promise11Test::share);
        Check.test("Promise 11: a courier who comes later has no legs", Promise11Test::latecomer);
        Check.test("Promise 11: the last parcel and the last courier", Promise11Test::last);
        Check.end();
    }

    private static void inside() {
        Check.answersOnly(Made::some, "legs(0, 0, false)", 2, x -> x.legs(0, 0, false));
        Check.answersOnly(Made::some, "legs(0, 1, false)", 1, x -> x.legs(0, 1, false));
        Check.answersOnly(Made::some, "legs(0, 0, true)", 6, x -> x.legs(0, 0, true));
        Check.answersOnly(Made::some, "legs(0, 1, true)", 3, x -> x.legs(0, 1, true));
        Check.answersOnly(Made::some, "legs(3, 0, false)", 1, x -> x.legs(3, 0, false));
        Check.answersOnly(Made::some, "legs(3, 1, false)", 0, x -> x.legs(3, 1, false));
    }

    private static void noSuchParcel() {
        for (int number : new int[] {-1, 4, 23, 24, Integer.MIN_VALUE, Integer.MAX_VALUE}) {
            Check.refuses(Made::some, "legs(" + number + ", 0, true)", Check.INDEX, x -> x.legs(number, 0, true));
            Check.refuses(Made::some, "legs(" + number + ", 1, false)", Check.INDEX, x -> x.legs(number, 1, false));
        }
        Check.refuses(Made::full, "legs(24, 0, true)", Check.INDEX, x -> x.legs(24, 0, true));
        Check.refuses(Made::full, "legs(24, 6, false)", Check.INDEX, x -> x.legs(24, 6, false));
    }

    private static void noSuchCourier() {
        for (int number : new int[] {-1, 2, 5, 6, Integer.MIN_VALUE, Integer.MAX_VALUE}) {
            Check.refuses(Made::some, "legs(0, " + number + ", true)", Check.INDEX, x -> x.legs(0, number, true));
            Check.refuses(Made::some, "legs(3, " + number + ", false)", Check.INDEX, x -> x.legs(3, number, false));
        }
        Check.refuses(Made::full, "legs(0, 6, true)", Check.INDEX, x -> x.legs(0, 6, true));
        Check.refuses(() -> Made.parcels(3), "legs(0, 0, false) without couriers", Check.INDEX,
                x -> x.legs(0, 0, false));
        Check.refuses(() -> Made.couriers(3), "legs(0, 0, false) without parcels", Check.INDEX,
                x -> x.legs(0, 0, false));
    }

    private static void notDelivered() {
        CourierRelay x = Made.one(Check.area(0, 1, 2), 0, 3, 99, 500);
        Check.is("given", x.legs(0, 0, true), 0);
        x.run(4);
        Check.is("carried", x.legs(0, 0, false) + " " + x.legs(0, 0, true), "2 0");
        x.run(1);
        Check.is("handed over", x.legs(0, 0, false) + " " + x.legs(0, 0, true), "2 0");
        x.run(200);
        Check.is("failed", x.parcel(0, 4) + " " + x.legs(0, 0, false) + " " + x.legs(0, 0, true), "3 2 0");
    }

    private static void share() {
        CourierRelay x = Made.one(3, 0, 1, 3, 9);
        x.give(1, 0, 5, 9);
        x.run(50);
        Check.is("in time", x.legs(0, 0, true), 9);
        Check.is("late", x.legs(1, 0, true), 4);
    }

    private static void latecomer() {
        CourierRelay x = Made.one(3, 0, 1, 9, 5);
        x.run(3);
        x.addCourier(3, 0);
        Check.is("legs", Check.legs(x, 0, false), "1 0");
        Check.is("shares", Check.legs(x, 0, true), "5 0");
    }

    private static void last() {
        CourierRelay x = Made.parcels(23);
        for (int c = 0; c < 5; c++) {
            x.addCourier(0, c);
        }
        x.addCourier(Made.ALL, 9);
        x.give(9, 11, 50, 8);
        x.run(10);
        Check.is("legs(23, 5, false)", x.legs(23, 5, false), 2);
        Check.is("legs(23, 5, true)", x.legs(23, 5, true), 8);
        Check.is("legs(23, 4, true)", x.legs(23, 4, true), 0);
    }
}
