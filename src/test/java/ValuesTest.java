/** Promises 8 to 15: what can be asked of the exchange as it is. */
public final class ValuesTest {
    private static final Class<IllegalArgumentException> ARGUMENT = IllegalArgumentException.class;
    private static final Class<IndexOutOfBoundsException> INDEX = IndexOutOfBoundsException.class;

    public static void main(String[] args) {
        value();
        courier();
        parcel();
        legs();
        distance();
        suited();
        leastRelay();
        punctuality();
        Check.end();
    }

    /** One parcel of each state, both couriers busy. */
    private static CourierRelay each() {
        CourierRelay x = new CourierRelay();
        x.addCourier(Check.area(0, 1, 2), 0);
        x.addCourier(Check.area(2, 3), 3);
        x.setGrace(1);
        x.give(0, 3, 50, 9);
        x.give(8, 9, 1, 5);
        x.give(8, 9, 60, 5);
        x.run(20);
        x.give(0, 3, 60, 9);
        x.run(5);
        return x;
    }

    private static void value() {
        CourierRelay x = each();
        Check.is("values", Check.values(x), "25 2 4 1 1 1 1 1 9 1 7");
        Check.fails("value(-1)", ARGUMENT, () -> x.value(-1));
        Check.fails("value(11)", ARGUMENT, () -> x.value(11));
        Check.fails("value of the least int", ARGUMENT, () -> x.value(Integer.MIN_VALUE));
        Check.fails("value of the greatest int", ARGUMENT, () -> x.value(Integer.MAX_VALUE));
    }

    private static void courier() {
        CourierRelay x = each();
        Check.is("courier 0", Check.courier(x, 0), "7 1 6 2 3 3");
        Check.is("courier 1", Check.courier(x, 1), "12 3 3 0 -1 1");
        Check.fails("courier(-1, 0)", INDEX, () -> x.courier(-1, 0));
        Check.fails("courier(2, 0)", INDEX, () -> x.courier(2, 0));
        Check.fails("courier(6, 6)", INDEX, () -> x.courier(6, 6));
        Check.fails("courier of the greatest int", INDEX, () -> x.courier(Integer.MAX_VALUE, 0));
        Check.fails("courier(0, -1)", ARGUMENT, () -> x.courier(0, -1));
        Check.fails("courier(1, 6)", ARGUMENT, () -> x.courier(1, 6));
    }

    private static void parcel() {
        CourierRelay x = each();
        Check.is("parcel 0", Check.parcel(x, 0), "0 3 50 9 2 3 8 9 3");
        Check.is("parcel 1", Check.parcel(x, 1), "8 9 1 5 3 8 -1 0 0");
        Check.is("parcel 2", Check.parcel(x, 2), "8 9 60 5 0 8 -1 0 0");
        Check.is("parcel 3", Check.parcel(x, 3), "0 3 60 9 1 1 -1 0 1");
        Check.fails("parcel(-1, 0)", INDEX, () -> x.parcel(-1, 0));
        Check.fails("parcel(4, 0)", INDEX, () -> x.parcel(4, 0));
        Check.fails("parcel(24, 9)", INDEX, () -> x.parcel(24, 9));
        Check.fails("parcel(0, -1)", ARGUMENT, () -> x.parcel(0, -1));
        Check.fails("parcel(0, 9)", ARGUMENT, () -> x.parcel(0, 9));
    }

    private static void legs() {
        CourierRelay x = each();
        Check.is("legs of parcel 0", Check.legs(x, 0, false), "2 1");
        Check.is("shares of parcel 0", Check.legs(x, 0, true), "6 3");
        Check.is("legs of parcel 3", Check.legs(x, 3, false), "1 0");
        Check.is("shares of parcel 3", Check.legs(x, 3, true), "0 0");
        Check.fails("legs(-1, 0)", INDEX, () -> x.legs(-1, 0, false));
        Check.fails("legs(4, 0)", INDEX, () -> x.legs(4, 0, true));
        Check.fails("legs(0, -1)", INDEX, () -> x.legs(0, -1, true));
        Check.fails("legs(0, 2)", INDEX, () -> x.legs(0, 2, false));
    }

    /** Counts the moves as "Zones" tells them. */
    private static int steps(int from, int to) {
        int moves = 0;
        for (int zone = from; zone != to; moves++) {
            if (zone % 4 < to % 4) {
                zone++;
            } else if (zone % 4 > to % 4) {
                zone--;
            } else {
                zone += zone < to ? 4 : -4;
            }
        }
        return moves;
    }

    private static void distance() {
        CourierRelay x = new CourierRelay();
        for (int from = 0; from < 16; from++) {
            for (int to = 0; to < 16; to++) {
                Check.is("distance(" + from + ", " + to + ")", x.distance(from, to), steps(from, to));
            }
        }
        Check.is("distance(3, 12)", x.distance(3, 12), 6);
        Check.fails("distance(-1, 0)", INDEX, () -> x.distance(-1, 0));
        Check.fails("distance(16, 0)", INDEX, () -> x.distance(16, 0));
        Check.fails("distance(0, -1)", INDEX, () -> x.distance(0, -1));
        Check.fails("distance(0, 16)", INDEX, () -> x.distance(0, 16));
    }

    private static void suited() {
        CourierRelay x = new CourierRelay();
        Check.fails("suited(0) without parcels", INDEX, () -> x.suited(0));
        x.addCourier(Check.area(0, 1), 0);
        x.addCourier(Check.area(1, 2), 3);
        x.addCourier(Check.area(0, 1, 2), 15);
        x.addCourier(Check.area(0, 4), 0);
        x.give(0, 2, 100, 1);
        x.give(6, 5, 1, 1);
        Check.is("suited(0), waiting", x.suited(0), 5);
        Check.is("suited(1), nobody", x.suited(1), 0);
        x.setArea(3, Check.area(5, 6));
        Check.is("suited(1), a new area", x.suited(1), 8);
        x.setArea(3, 0);
        x.run(3);
        Check.is("suited(0), carried to zone 1", x.suited(0), 6);
        x.run(20);
        x.setArea(3, 65535);
        Check.is("state of parcel 0", x.parcel(0, 4), 2);
        Check.is("suited(0), delivered", x.suited(0), 0);
        Check.is("state of parcel 1", x.parcel(1, 4), 3);
        Check.is("suited(1), failed", x.suited(1), 0);
        Check.fails("suited(-1)", INDEX, () -> x.suited(-1));
        Check.fails("suited(2)", INDEX, () -> x.suited(2));
    }

    private static int least(int origin, int destination, int... areas) {
        CourierRelay x = new CourierRelay();
        for (int area : areas) {
            x.addCourier(area, 0);
        }
        x.give(origin, destination, 100, 1);
        return x.leastRelay(0);
    }

    private static void leastRelay() {
        Check.is("nobody", least(0, 3), -1);
        Check.is("one", least(0, 3, 65535), 1);
        Check.is("one for each leg",
                least(0, 3, Check.area(0, 1), Check.area(1, 2), Check.area(2, 3)), 3);
        Check.is("the one who goes farther",
                least(0, 3, Check.area(0, 1), Check.area(0, 1, 2), Check.area(2, 3)), 2);
        Check.is("not the longest one alone", least(0, 7, Check.area(1, 2, 3),
                Check.area(0, 1, 2), Check.area(2, 3, 7)), 2);
        Check.is("one who carries it twice", least(0, 7, Check.area(0, 1, 3, 7), Check.area(1, 2, 3)), 3);
        Check.is("a gap in the way", least(0, 3, Check.area(0, 1), Check.area(2, 3)), -1);
        Check.is("rows before columns are another way", least(0, 5, Check.area(0, 4, 5)), -1);
        Check.is("columns first", least(0, 5, Check.area(0, 1, 5)), 1);
        Check.is("the way back goes otherwise", least(5, 0, Check.area(0, 1, 5)), -1);
        CourierRelay x = new CourierRelay();
        Check.fails("leastRelay(0) without parcels", INDEX, () -> x.leastRelay(0));
        x.addCourier(Check.area(0, 1, 2), 0);
        x.give(0, 2, 100, 1);
        x.run(10);
        Check.is("delivered, from its origin", x.leastRelay(0), 1);
        x.setArea(0, Check.area(1, 2));
        Check.is("delivered, the area changed", x.leastRelay(0), -1);
        Check.fails("leastRelay(1)", INDEX, () -> x.leastRelay(1));
        Check.fails("leastRelay(-1)", INDEX, () -> x.leastRelay(-1));
    }

    private static void punctuality() {
        CourierRelay x = new CourierRelay();
        Check.is("without any", x.punctuality(), 1.0);
        x.addCourier(Check.area(0, 1), 0);
        x.give(0, 1, 3, 1);
        Check.is("waiting alone", x.punctuality(), 1.0);
        x.run(3);
        Check.is("at the cut-off", x.punctuality(), 1.0);
        x.give(1, 0, 5, 1);
        x.run(3);
        Check.is("one of two", x.punctuality(), 0.5);
        x.give(9, 8, 1, 1);
        x.give(0, 1, 900, 1);
        x.run(7);
        Check.is("two of four", x.punctuality(), 2.0 / 4.0);
        x.give(9, 8, 1, 1);
        x.give(9, 8, 1, 1);
        x.give(9, 8, 1, 1);
        x.run(1);
        Check.is("two of seven", x.punctuality(), 2.0 / 7.0);
        CourierRelay y = new CourierRelay();
        y.give(0, 1, 1, 1);
        y.run(12);
        Check.is("failed alone", y.punctuality(), 0.0);
    }
}
