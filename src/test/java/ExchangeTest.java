/** Promises 1 to 7: a new object and the calls that change the exchange. */
public final class ExchangeTest {
    private static final Class<IllegalArgumentException> ARGUMENT = IllegalArgumentException.class;
    private static final Class<IllegalStateException> STATE = IllegalStateException.class;
    private static final Class<IndexOutOfBoundsException> INDEX = IndexOutOfBoundsException.class;

    public static void main(String[] args) {
        newObject();
        addCourier();
        setArea();
        give();
        setGrace();
        drop();
        runArguments();
        runAlone();
        runHandover();
        runChoice();
        runWays();
        runLate();
        runTips();
        Check.end();
    }

    private static void newObject() {
        CourierRelay x = new CourierRelay();
        Check.is("NONE", CourierRelay.NONE, -1);
        Check.is("values of a new object", Check.values(x), "0 0 0 10 0 0 0 0 0 0 0");
        Check.fails("courier(0, 0) of a new object", INDEX, () -> x.courier(0, 0));
        Check.fails("parcel(0, 0) of a new object", INDEX, () -> x.parcel(0, 0));
        Check.fails("undo() of a new object", STATE, () -> x.undo());
        Check.is("clearText() of a new object", x.clearText(), 0);
        CourierRelay other = new CourierRelay();
        other.addCourier(1, 1);
        Check.is("couriers, another object having one", x.value(1), 0);
    }

    private static void addCourier() {
        CourierRelay x = new CourierRelay();
        Check.fails("addCourier(-1, 0)", ARGUMENT, () -> x.addCourier(-1, 0));
        Check.fails("addCourier(65536, 0)", ARGUMENT, () -> x.addCourier(65536, 0));
        Check.fails("addCourier(0, -1)", ARGUMENT, () -> x.addCourier(0, -1));
        Check.fails("addCourier(0, 16)", ARGUMENT, () -> x.addCourier(0, 16));
        Check.fails("undo() after wrong calls", STATE, () -> x.undo());
        Check.is("addCourier(65535, 15)", x.addCourier(65535, 15), 0);
        Check.is("addCourier(0, 0)", x.addCourier(0, 0), 1);
        Check.is("courier 0", Check.courier(x, 0), "65535 15 0 0 -1 0");
        Check.is("courier 1", Check.courier(x, 1), "0 0 0 0 -1 0");
        for (int c = 2; c < 6; c++) {
            Check.is("addCourier no. " + c, x.addCourier(c, c), c);
        }
        Check.fails("a courier too many", STATE, () -> x.addCourier(1, 1));
        Check.fails("a courier too many, wrong zone", ARGUMENT, () -> x.addCourier(1, 16));
        Check.is("couriers", x.value(1), 6);
        Check.is("undo()", x.undo(), 3);
        Check.is("couriers after undo", x.value(1), 5);
        Check.is("addCourier again", x.addCourier(9, 8), 5);
        Check.is("courier 5", Check.courier(x, 5), "9 8 0 0 -1 0");
    }

    private static void setArea() {
        CourierRelay x = new CourierRelay();
        Check.fails("setArea(0, 1) without couriers", INDEX, () -> x.setArea(0, 1));
        x.addCourier(7, 0);
        Check.fails("setArea(-1, 1)", INDEX, () -> x.setArea(-1, 1));
        Check.fails("setArea(1, 65536)", INDEX, () -> x.setArea(1, 65536));
        Check.fails("setArea(0, 65536)", ARGUMENT, () -> x.setArea(0, 65536));
        Check.fails("setArea(0, -1)", ARGUMENT, () -> x.setArea(0, -1));
        Check.is("setArea(0, 65535)", x.setArea(0, 65535), 7);
        Check.is("setArea(0, 0)", x.setArea(0, 0), 65535);
        Check.is("undo()", x.undo(), 2);
        Check.is("area after undo", x.courier(0, 0), 65535);
        x.setArea(0, 7);
        x.give(1, 2, 100, 10);
        x.run(1);
        x.setArea(0, 0);
        Check.is("on the way, its area taken", Check.courier(x, 0), "0 0 0 1 0 0");
        x.run(2);
        Check.is("it took the parcel all the same", Check.courier(x, 0), "0 1 0 2 0 0");
        x.run(1);
        Check.is("it hands over at once", Check.courier(x, 0), "0 1 0 0 -1 0");
        Check.is("handovers", x.value(9), 1);
    }

    private static void give() {
        CourierRelay x = new CourierRelay();
        Check.fails("give(-1, 1, 1, 0)", ARGUMENT, () -> x.give(-1, 1, 1, 0));
        Check.fails("give(16, 1, 1, 0)", ARGUMENT, () -> x.give(16, 1, 1, 0));
        Check.fails("give(1, -1, 1, 0)", ARGUMENT, () -> x.give(1, -1, 1, 0));
        Check.fails("give(1, 16, 1, 0)", ARGUMENT, () -> x.give(1, 16, 1, 0));
        Check.fails("give(3, 3, 1, 0)", ARGUMENT, () -> x.give(3, 3, 1, 0));
        Check.fails("give(1, 2, 0, 0)", ARGUMENT, () -> x.give(1, 2, 0, 0));
        Check.fails("give(1, 2, 1000, 0)", ARGUMENT, () -> x.give(1, 2, 1000, 0));
        Check.fails("give(1, 2, 1, -1)", ARGUMENT, () -> x.give(1, 2, 1, -1));
        Check.fails("give(1, 2, 1, 1001)", ARGUMENT, () -> x.give(1, 2, 1, 1001));
        Check.fails("undo() after wrong calls", STATE, () -> x.undo());
        Check.is("give(0, 15, 1, 0)", x.give(0, 15, 1, 0), 0);
        Check.is("give(15, 0, 999, 1000)", x.give(15, 0, 999, 1000), 1);
        Check.is("parcel 0", Check.parcel(x, 0), "0 15 1 0 0 0 -1 0 0");
        Check.is("parcel 1", Check.parcel(x, 1), "15 0 999 1000 0 15 -1 0 0");
        for (int p = 2; p < 24; p++) {
            Check.is("give no. " + p, x.give(1, 2, 3, 4), p);
        }
        Check.fails("a parcel too many", STATE, () -> x.give(1, 2, 3, 4));
        Check.fails("a parcel too many, wrong tip", ARGUMENT, () -> x.give(1, 2, 3, 1001));
        Check.is("undo()", x.undo(), 3);
        Check.is("values after undo", Check.values(x), "0 0 23 10 23 0 0 0 0 0 0");
    }

    private static void setGrace() {
        CourierRelay x = new CourierRelay();
        Check.fails("setGrace(-1)", ARGUMENT, () -> x.setGrace(-1));
        Check.fails("setGrace(101)", ARGUMENT, () -> x.setGrace(101));
        Check.is("setGrace(100)", x.setGrace(100), 10);
        Check.is("setGrace(0)", x.setGrace(0), 100);
        Check.is("undo()", x.undo(), 1);
        Check.is("grace after undo", x.value(3), 100);
        x.setGrace(2);
        x.give(0, 1, 5, 10);
        x.run(7);
        Check.is("state at the cut-off plus the grace", x.parcel(0, 4), 0);
        x.run(1);
        Check.is("state one tick later", x.parcel(0, 4), 3);
    }

    private static void drop() {
        CourierRelay x = new CourierRelay();
        Check.fails("drop(0) without couriers", INDEX, () -> x.drop(0));
        x.addCourier(Check.area(0, 1, 2), 0);
        Check.fails("drop(1)", INDEX, () -> x.drop(1));
        Check.fails("drop(-1)", INDEX, () -> x.drop(-1));
        Check.is("drop(0), free", x.drop(0), -1);
        Check.is("undo()", x.undo(), 1);
        x.give(3, 2, 99, 10);
        x.give(0, 2, 100, 11);
        x.run(1);
        Check.is("drop(0), on the way", x.drop(0), 1);
        Check.is("courier 0 after it", Check.courier(x, 0), "7 0 0 0 -1 0");
        Check.is("parcel 1 after it", Check.parcel(x, 1), "0 2 100 11 0 0 -1 0 0");
        x.run(3);
        Check.is("parcel 1, carried", Check.parcel(x, 1), "0 2 100 11 1 1 -1 0 1");
        Check.is("drop(0), carrying", x.drop(0), 1);
        Check.is("courier 0, having dropped it", Check.courier(x, 0), "7 1 0 0 -1 1");
        Check.is("parcel 1, dropped", Check.parcel(x, 1), "0 2 100 11 0 1 -1 0 1");
        Check.is("handovers", x.value(9), 0);
        x.undo();
        Check.is("parcel 1 after undo", Check.parcel(x, 1), "0 2 100 11 1 1 -1 0 1");
        Check.is("courier 0 after undo", Check.courier(x, 0), "7 1 0 2 1 1");
    }

    private static void runArguments() {
        CourierRelay x = new CourierRelay();
        Check.fails("run(-1)", ARGUMENT, () -> x.run(-1));
        Check.fails("run(201)", ARGUMENT, () -> x.run(201));
        Check.fails("undo() after wrong calls", STATE, () -> x.undo());
        Check.is("run(0)", x.run(0), 0);
        Check.is("undo(), run(0) saved a state", x.undo(), 0);
        for (int k = 0; k < 9; k++) {
            x.run(200);
        }
        x.run(199);
        Check.fails("run(2) at 1999", STATE, () -> x.run(2));
        Check.is("run(1) at 1999", x.run(1), 0);
        Check.fails("run(1) at 2000", STATE, () -> x.run(1));
        Check.fails("run(201) at 2000", ARGUMENT, () -> x.run(201));
        Check.is("run(0) at 2000", x.run(0), 0);
        Check.is("time", x.value(0), 2000);
        x.undo();
        Check.is("undo()", x.undo(), 2);
        Check.is("time after undo", x.value(0), 1999);
    }

    private static void runAlone() {
        CourierRelay x = new CourierRelay();
        x.addCourier(Check.area(0, 1, 2), 0);
        x.give(0, 2, 100, 10);
        Check.is("run(1)", x.run(1), 0);
        Check.is("it chose", Check.courier(x, 0), "7 0 0 1 0 0");
        x.run(1);
        Check.is("it took", Check.courier(x, 0), "7 0 0 2 0 0");
        Check.is("parcel taken", Check.parcel(x, 0), "0 2 100 10 1 0 -1 0 0");
        x.run(1);
        Check.is("it moved", Check.courier(x, 0), "7 1 0 2 0 1");
        Check.is("parcel moved", Check.parcel(x, 0), "0 2 100 10 1 1 -1 0 1");
        Check.is("run(1) that delivers", x.run(1), 1);
        Check.is("it delivered", Check.courier(x, 0), "7 2 10 0 -1 2");
        Check.is("parcel delivered", Check.parcel(x, 0), "0 2 100 10 2 2 4 10 2");
        Check.is("values", Check.values(x), "4 1 1 10 0 0 1 0 10 0 2");
        x.give(2, 1, 100, 1);
        x.give(1, 0, 100, 1);
        Check.is("run(20), two delivered", x.run(20), 2);
    }

    private static void runHandover() {
        CourierRelay x = new CourierRelay();
        x.addCourier(Check.area(0, 1), 0);
        x.addCourier(Check.area(1, 2), 1);
        x.give(0, 2, 100, 10);
        x.run(3);
        Check.is("second one still free", Check.courier(x, 1), "6 1 0 0 -1 0");
        x.run(1);
        Check.is("first one handed over", Check.courier(x, 0), "3 1 0 0 -1 1");
        Check.is("second one chose in the same tick", Check.courier(x, 1), "6 1 0 1 0 0");
        Check.is("parcel waits between", Check.parcel(x, 0), "0 2 100 10 0 1 -1 0 1");
        Check.is("delivered", x.run(2), 1);
        Check.is("handovers", x.value(9), 1);
        Check.is("moves", x.value(10), 2);
        Check.is("legs", Check.legs(x, 0, false), "1 1");
        Check.is("shares", Check.legs(x, 0, true), "5 5");

        CourierRelay y = new CourierRelay();
        y.addCourier(Check.area(1, 2), 1);
        y.addCourier(Check.area(0, 1), 0);
        y.give(0, 2, 100, 10);
        y.run(4);
        Check.is("handed over after the lower one acted", Check.courier(y, 0), "6 1 0 0 -1 0");
        Check.is("delivered a tick later", y.run(2) * 10 + y.run(1), 1);
    }

    private static void runChoice() {
        CourierRelay x = new CourierRelay();
        x.addCourier(65535, 5);
        x.addCourier(65535, 5);
        x.addCourier(Check.area(1, 2), 5);
        x.give(9, 8, 50, 1);
        x.give(5, 6, 40, 1);
        x.give(1, 2, 40, 1);
        x.give(1, 2, 40, 1);
        x.run(1);
        Check.is("lowest cut-off, lowest number", x.courier(0, 4), 1);
        Check.is("not the one that is sought", x.courier(1, 4), 2);
        Check.is("only what suits", x.courier(2, 4), 3);
        x.give(5, 6, 1, 1);
        x.run(1);
        Check.is("no other choice on the way", x.courier(1, 4), 2);

        CourierRelay y = new CourierRelay();
        y.addCourier(Check.area(0, 4, 5), 0);
        y.give(0, 5, 50, 1);
        y.run(1);
        Check.is("zone in the area, next zone not", y.courier(0, 4), -1);
        y.setArea(0, Check.area(1, 5));
        y.run(1);
        Check.is("next zone in the area, zone not", y.courier(0, 4), -1);
        y.setArea(0, Check.area(0, 1));
        y.run(1);
        Check.is("both in the area", y.courier(0, 4), 0);
    }

    private static void runWays() {
        CourierRelay x = new CourierRelay();
        x.addCourier(Check.area(0, 1), 15);
        x.give(0, 1, 100, 3);
        StringBuilder way = new StringBuilder();
        for (int t = 1; t <= 9; t++) {
            x.run(1);
            way.append(x.courier(0, 1)).append(' ').append(x.courier(0, 3)).append(' ');
        }
        Check.is("columns first, then rows; outside its area",
                way.toString(), "15 1 14 1 13 1 12 1 8 1 4 1 0 1 0 2 1 0 ");
        Check.is("moves", x.value(10), 7);
        CourierRelay y = new CourierRelay();
        y.addCourier(65535, 3);
        y.give(3, 12, 100, 3);
        way.setLength(0);
        for (int t = 1; t <= 8; t++) {
            y.run(1);
            way.append(y.parcel(0, 5)).append(' ');
        }
        Check.is("the way of a parcel to the left and down", way.toString(), "3 3 2 1 0 4 8 12 ");
    }

    private static CourierRelay late(int cutOff, int grace, int tip) {
        CourierRelay x = new CourierRelay();
        x.addCourier(Check.area(0, 1, 2), 0);
        x.setGrace(grace);
        x.give(0, 2, cutOff, tip);
        x.run(4);
        return x;
    }

    private static void runLate() {
        Check.is("at the cut-off", Check.parcel(late(4, 0, 11), 0), "0 2 4 11 2 2 4 11 2");
        Check.is("late, in the tick in which it would fail",
                Check.parcel(late(3, 0, 11), 0), "0 2 3 11 2 2 4 5 2");
        Check.is("late, within the grace", Check.parcel(late(2, 2, 1), 0), "0 2 2 1 2 2 4 0 2");
        CourierRelay x = late(2, 0, 11);
        Check.is("failed on the way", Check.parcel(x, 0), "0 2 2 11 3 1 -1 0 1");
        Check.is("its courier is free", Check.courier(x, 0), "7 1 0 0 -1 1");
        Check.is("values", Check.values(x), "4 1 1 0 0 0 0 1 0 0 1");
        CourierRelay y = new CourierRelay();
        y.addCourier(65535, 15);
        y.setGrace(0);
        y.give(0, 1, 2, 5);
        y.run(2);
        Check.is("on the way", Check.courier(y, 0), "65535 14 0 1 0 0");
        y.run(1);
        Check.is("free, as the parcel failed", Check.courier(y, 0), "65535 13 0 0 -1 0");
        Check.is("failed where it waited", Check.parcel(y, 0), "0 1 2 5 3 0 -1 0 0");
    }

    private static CourierRelay three(int tip) {
        CourierRelay x = new CourierRelay();
        x.addCourier(Check.area(0, 1), 0);
        x.addCourier(Check.area(1, 2, 3), 1);
        x.addCourier(Check.area(3, 7), 3);
        x.give(0, 7, 100, tip);
        x.run(40);
        return x;
    }

    private static void runTips() {
        Check.is("legs 1 2 1", Check.legs(three(10), 0, false), "1 2 1");
        Check.is("shares of 0", Check.legs(three(0), 0, true), "0 0 0");
        Check.is("shares of 1", Check.legs(three(1), 0, true), "0 1 0");
        Check.is("shares of 7", Check.legs(three(7), 0, true), "2 3 2");
        Check.is("shares of 8", Check.legs(three(8), 0, true), "2 4 2");
        Check.is("shares of 10", Check.legs(three(10), 0, true), "3 5 2");
        Check.is("shares of 1000", Check.legs(three(1000), 0, true), "250 500 250");
        CourierRelay x = three(10);
        x.give(0, 7, 999, 101);
        x.run(60);
        Check.is("shares of 101", Check.legs(x, 1, true), "25 51 25");
        Check.is("tips", x.courier(0, 2) + " " + x.courier(1, 2) + " " + x.courier(2, 2), "28 56 27");
        Check.is("paid", x.value(8), 111);
    }
}
