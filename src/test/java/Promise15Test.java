/** Promise 15, punctuality: a test for each sentence about a boundary. */
public final class Promise15Test {
    public static void main(String[] args) {
        Check.test("Promise 15: 1.0 without any that is delivered or failed", Promise15Test::withoutAny);
        Check.test("Promise 15: delivered at the cut-off is in time", Promise15Test::atCutOff);
        Check.test("Promise 15: delivered one tick later is not", Promise15Test::afterCutOff);
        Check.test("Promise 15: failed ones count below alone", Promise15Test::failed);
        Check.test("Promise 15: waiting and carried ones do not count", Promise15Test::openOnes);
        Check.test("Promise 15: a division of doubles", Promise15Test::doubles);
        Check.test("Promise 15: it changes nothing", Promise15Test::changesNothing);
        Check.end();
    }

    private static void withoutAny() {
        Check.is("of the empty exchange", new CourierRelay().punctuality(), 1.0);
        Check.is("of 24 that wait", Made.parcels(24).punctuality(), 1.0);
        CourierRelay x = Made.one(3, 0, 1, 1, 5);
        x.run(2);
        Check.is("of a carried one whose cut-off is over", x.punctuality(), 1.0);
    }

    private static double delivered(int cutOff) {
        CourierRelay x = Made.one(3, 0, 1, cutOff, 0);
        x.run(3);
        return x.punctuality();
    }

    private static void atCutOff() {
        Check.is("cut-off 3, delivered at 3", delivered(3), 1.0);
        Check.is("cut-off 4, delivered at 3", delivered(4), 1.0);
    }

    private static void afterCutOff() {
        Check.is("cut-off 2, delivered at 3", delivered(2), 0.0);
        Check.is("cut-off 1, delivered at 3", delivered(1), 0.0);
    }

    private static void failed() {
        CourierRelay x = new CourierRelay();
        x.give(0, 1, 1, 1);
        x.run(12);
        Check.is("of a failed one", x.punctuality(), 0.0);
        x.addCourier(3, 0);
        x.give(0, 1, 99, 1);
        x.run(3);
        Check.is("of a failed one and one in time", x.punctuality(), 0.5);
    }

    private static void openOnes() {
        CourierRelay x = Made.one(3, 0, 1, 99, 5);
        x.run(3);
        x.give(1, 0, 999, 5);
        x.give(9, 8, 999, 5);
        x.run(2);
        Check.is("one delivered, one carried, one waiting",
                x.value(6) + " " + x.value(5) + " " + x.value(4) + " " + x.punctuality(), "1 1 1 1.0");
    }

    private static void doubles() {
        Check.is("1 of 3", share(1, 3), 1.0 / 3.0);
        Check.is("2 of 3", share(2, 3), 2.0 / 3.0);
        Check.is("3 of 3", share(3, 3), 1.0);
        Check.is("0 of 24", share(0, 24), 0.0);
        Check.is("1 of 24", share(1, 24), 1.0 / 24.0);
        Check.is("7 of 24", share(7, 24), 7.0 / 24.0);
        Check.is("23 of 24", share(23, 24), 23.0 / 24.0);
        Check.is("24 of 24", share(24, 24), 1.0);
    }

    /** So many in time, the others failed. */
    private static double share(int inTime, int all) {
        CourierRelay x = new CourierRelay();
        x.addCourier(3, 0);
        for (int p = 0; p < all; p++) {
            if (p < inTime) {
                x.give(p % 2, 1 - p % 2, 100, 5);
            } else {
                x.give(9, 8, 1, 5);
            }
        }
        x.run(100);
        return x.punctuality();
    }

    private static void changesNothing() {
        Check.answersOnly(Made::some, "punctuality()", 0.5, x -> x.punctuality());
        Check.answersOnly(Made::empty, "punctuality()", 1.0, x -> x.punctuality());
    }
}
