/** Promise 7, run: a test for each sentence of "Tips". */
public final class Promise07TipsTest {
    public static void main(String[] args) {
        Check.test("Promise 7, tips: all of it at the cut-off", Promise07TipsTest::inTime);
        Check.test("Promise 7, tips: tip / 2 after the cut-off, rounded down", Promise07TipsTest::late);
        Check.test("Promise 7, tips: nothing for what fails", Promise07TipsTest::failed);
        Check.test("Promise 7, tips: shared by legs", Promise07TipsTest::byLegs);
        Check.test("Promise 7, tips: the rest goes to the greatest remainders", Promise07TipsTest::greatestRemainders);
        Check.test("Promise 7, tips: equal remainders in ascending order", Promise07TipsTest::equalRemainders);
        Check.test("Promise 7, tips: who has no legs gets nothing", Promise07TipsTest::noLegs);
        Check.test("Promise 7, tips: six couriers", Promise07TipsTest::sixCouriers);
        Check.test("Promise 7, tips: what is paid late is shared, not the tip", Promise07TipsTest::lateShares);
        Check.test("Promise 7, tips: who carried it twice", Promise07TipsTest::carriedTwice);
        Check.test("Promise 7, tips: each share of each tip", Promise07TipsTest::eachTip);
        Check.test("Promise 7, tips: they add up", Promise07TipsTest::addUp);
        Check.end();
    }

    /** Delivered at 3. */
    private static String paid(int cutOff, int tip) {
        CourierRelay x = Made.one(3, 0, 1, cutOff, tip);
        x.run(3);
        return x.parcel(0, 6) + " " + x.parcel(0, 7) + " " + x.courier(0, 2) + " " + x.value(8);
    }

    private static void inTime() {
        Check.is("cut-off 4", paid(4, 11), "3 11 11 11");
        Check.is("cut-off 3", paid(3, 11), "3 11 11 11");
        Check.is("the greatest tip", paid(3, 1000), "3 1000 1000 1000");
        Check.is("the least tip", paid(3, 0), "3 0 0 0");
    }

    private static void late() {
        Check.is("cut-off 2", paid(2, 11), "3 5 5 5");
        Check.is("cut-off 1", paid(1, 11), "3 5 5 5");
        Check.is("a tip of 1", paid(2, 1), "3 0 0 0");
        Check.is("a tip of 2", paid(2, 2), "3 1 1 1");
        Check.is("a tip of 0", paid(2, 0), "3 0 0 0");
        Check.is("the greatest tip", paid(2, 1000), "3 500 500 500");
        Check.is("a tip of 999", paid(2, 999), "3 499 499 499");
    }

    private static void failed() {
        CourierRelay x = Made.one(Made.ALL, 0, 15, 1, 1000);
        x.setGrace(3);
        x.run(9);
        Check.is("the parcel", Check.parcel(x, 0), "0 15 1 1000 3 3 -1 0 3");
        Check.is("paid", x.value(8), 0);
        Check.is("tips", x.courier(0, 2), 0);
        Check.is("share", x.legs(0, 0, true), 0);
    }

    /** A parcel along a row of zones and down a column, each courier carrying as many legs. */
    private static CourierRelay relay(int tip, int... legs) {
        int[] zones = {0, 1, 2, 3, 7, 11, 15};
        CourierRelay x = new CourierRelay();
        int from = 0;
        for (int mine : legs) {
            int area = 0;
            for (int k = from; k <= from + mine && mine > 0; k++) {
                area |= 1 << zones[k];
            }
            x.addCourier(area, zones[from]);
            from += mine;
        }
        x.give(0, zones[from], 200, tip);
        x.run(100);
        return x;
    }

    private static String shares(int tip, int... legs) {
        return Check.legs(relay(tip, legs), 0, true);
    }

    private static void byLegs() {
        Check.is("legs", Check.legs(relay(9, 1, 2, 3), 0, false), "1 2 3");
        Check.is("6 for 1 2 3", shares(6, 1, 2, 3), "1 2 3");
        Check.is("1000 for 1 1", shares(1000, 1, 1), "500 500");
        Check.is("1000 for 4 1", shares(1000, 4, 1), "800 200");
        Check.is("1000 for one", shares(1000, 6), "1000");
        Check.is("0 for 1 2 3", shares(0, 1, 2, 3), "0 0 0");
    }

    private static void greatestRemainders() {
        // 1, 2 and 3 of 6: the remainders of 1 are 1 2 3, of 2: 2 4 0, of 4: 4 2 0, of 5: 5 4 3.
        Check.is("1 for 1 2 3", shares(1, 1, 2, 3), "0 0 1");
        Check.is("2 for 1 2 3", shares(2, 1, 2, 3), "0 1 1");
        Check.is("4 for 1 2 3", shares(4, 1, 2, 3), "1 1 2");
        Check.is("5 for 1 2 3", shares(5, 1, 2, 3), "1 2 2");
        Check.is("1 for 3 2 1", shares(1, 3, 2, 1), "1 0 0");
        Check.is("2 for 1 4", shares(2, 1, 4), "0 2");
        Check.is("3 for 1 4", shares(3, 1, 4), "1 2");
    }

    private static void equalRemainders() {
        Check.is("1 for 1 1", shares(1, 1, 1), "1 0");
        Check.is("1 for 1 1 1", shares(1, 1, 1, 1), "1 0 0");
        Check.is("2 for 1 1 1", shares(2, 1, 1, 1), "1 1 0");
        Check.is("1000 for 1 1 1", shares(1000, 1, 1, 1), "334 333 333");
        // The remainders are 2 1 2 of 5 for 1, so the middle one gets nothing though it is the second one.
        Check.is("1 for 2 1 2", shares(1, 2, 1, 2), "1 0 0");
        Check.is("4 for 2 1 2", shares(4, 2, 1, 2), "2 1 1");
        Check.is("3 for 2 1 2", shares(3, 2, 1, 2), "1 1 1");
    }

    private static void noLegs() {
        CourierRelay x = new CourierRelay();
        x.addCourier(0, 5);
        x.addCourier(3, 0);
        x.addCourier(Check.area(1, 2), 1);
        x.addCourier(Made.ALL - 3, 15);
        x.give(0, 2, 200, 7);
        x.run(50);
        Check.is("legs", Check.legs(x, 0, false), "0 1 1 0");
        Check.is("shares", Check.legs(x, 0, true), "0 4 3 0");
        Check.is("tips", x.courier(0, 2) + " " + x.courier(3, 2), "0 0");
    }

    private static void sixCouriers() {
        Check.is("legs", Check.legs(relay(1000, 1, 1, 1, 1, 1, 1), 0, false), "1 1 1 1 1 1");
        Check.is("1000", shares(1000, 1, 1, 1, 1, 1, 1), "167 167 167 167 166 166");
        Check.is("1", shares(1, 1, 1, 1, 1, 1, 1), "1 0 0 0 0 0");
        Check.is("5", shares(5, 1, 1, 1, 1, 1, 1), "1 1 1 1 1 0");
        Check.is("6", shares(6, 1, 1, 1, 1, 1, 1), "1 1 1 1 1 1");
    }

    private static void lateShares() {
        CourierRelay x = new CourierRelay();
        x.addCourier(3, 0);
        x.addCourier(Check.area(1, 2), 1);
        x.give(0, 2, 5, 7);
        x.run(6);
        Check.is("the parcel", Check.parcel(x, 0), "0 2 5 7 2 2 6 3 2");
        Check.is("shares", Check.legs(x, 0, true), "2 1");
        Check.is("tips", x.courier(0, 2) + " " + x.courier(1, 2), "2 1");
        Check.is("paid", x.value(8), 3);
    }

    private static void carriedTwice() {
        CourierRelay x = new CourierRelay();
        x.addCourier(Check.area(0, 1, 3, 7), 0);
        x.addCourier(Check.area(1, 2, 3), 1);
        x.give(0, 7, 200, 10);
        x.run(50);
        Check.is("legs", Check.legs(x, 0, false), "2 2");
        Check.is("shares", Check.legs(x, 0, true), "5 5");
        Check.is("handovers", x.value(9), 2);
    }

    /** The rest one by one, as the sentence says, in another writing. */
    private static String due(int tip, int[] legs) {
        int all = 0;
        for (int mine : legs) {
            all += mine;
        }
        int[] shares = new int[legs.length];
        int[] remainders = new int[legs.length];
        int rest = tip;
        for (int c = 0; c < legs.length; c++) {
            shares[c] = tip * legs[c] / all;
            remainders[c] = tip * legs[c] % all;
            rest -= shares[c];
        }
        for (; rest > 0; rest--) {
            int greatest = 0;
            for (int c = 1; c < legs.length; c++) {
                greatest = remainders[c] > remainders[greatest] ? c : greatest;
            }
            shares[greatest]++;
            remainders[greatest] = -1;
        }
        StringBuilder text = new StringBuilder();
        for (int c = 0; c < legs.length; c++) {
            text.append(c == 0 ? "" : " ").append(shares[c]);
        }
        return text.toString();
    }

    private static void eachTip() {
        int[][] many = {{1, 1}, {2, 1}, {1, 2}, {1, 3}, {3, 1}, {1, 4}, {1, 5}, {5, 1}, {1, 1, 1}, {2, 1, 1}, {1, 1, 2},
            {3, 1, 1}, {2, 1, 2}, {1, 2, 2}, {2, 2, 1}, {1, 3, 2}, {2, 1, 3}, {1, 1, 1, 1, 2}, {2, 1, 1, 1},
            {1, 2, 1, 2}};
        for (int[] legs : many) {
            for (int tip = 0; tip <= 13; tip++) {
                Check.is("shares of " + tip + " for " + due(legs.length, legs), shares(tip, legs), due(tip, legs));
            }
        }
    }

    private static void addUp() {
        CourierRelay x = relay(7, 1, 1, 1);
        x.give(0, 3, 300, 5);
        x.give(0, 3, 101, 9);
        x.run(100);
        Check.is("paid", x.parcel(0, 7) + " " + x.parcel(1, 7) + " " + x.parcel(2, 7), "7 5 4");
        Check.is("paid in all", x.value(8), 16);
        Check.is("tips", x.courier(0, 2) + " " + x.courier(1, 2) + " " + x.courier(2, 2), "7 5 4");
    }
}
