/** Promise 3, setArea: a test for each sentence about a boundary. */
public final class Promise03Test {
    public static void main(String[] args) {
        Check.test("Promise 3: area is 0 to 65535, the previous one is returned", Promise03Test::areaInside);
        Check.test("Promise 3: IllegalArgumentException if area is out of range", Promise03Test::areaOutside);
        Check.test("Promise 3: IndexOutOfBoundsException if there is no such courier", Promise03Test::noSuchCourier);
        Check.test("Promise 3: the courier comes before the area", Promise03Test::courierFirst);
        Check.test("Promise 3: the area of this courier alone", Promise03Test::thisOneAlone);
        Check.test("Promise 3: what it does goes on, on the way", Promise03Test::goesOnOnTheWay);
        Check.test("Promise 3: what it does goes on, carrying", Promise03Test::goesOnCarrying);
        Check.test("Promise 3: undoable, even if the area stays", Promise03Test::undoable);
        Check.end();
    }

    private static void areaInside() {
        CourierRelay x = new CourierRelay();
        x.addCourier(7, 0);
        int previous = 7;
        for (int area : new int[] {0, 65535, 1, 65534, 32768, 32768}) {
            Check.is("setArea(0, " + area + ")", x.setArea(0, area), previous);
            Check.is("its area", x.courier(0, 0), area);
            previous = area;
        }
    }

    private static void areaOutside() {
        for (int area : new int[] {-1, 65536, 65537, 131071, Integer.MIN_VALUE, Integer.MAX_VALUE}) {
            Check.refuses(Made::some, "setArea(0, " + area + ")", Check.ARGUMENT, x -> x.setArea(0, area));
            Check.refuses(Made::full, "setArea(5, " + area + ")", Check.ARGUMENT, x -> x.setArea(5, area));
        }
    }

    private static void noSuchCourier() {
        for (int number : new int[] {-1, 2, 5, 6, Integer.MIN_VALUE, Integer.MAX_VALUE}) {
            Check.refuses(Made::some, "setArea(" + number + ", 1)", Check.INDEX, x -> x.setArea(number, 1));
        }
        Check.refuses(Made::full, "setArea(6, 1)", Check.INDEX, x -> x.setArea(6, 1));
        Check.refuses(Made::full, "setArea(-1, 1)", Check.INDEX, x -> x.setArea(-1, 1));
        Check.is("setArea(5, 1) of six", Made.couriers(6).setArea(5, 1), Check.area(5, 6, 7));
        Check.is("setArea(0, 1) of six", Made.couriers(6).setArea(0, 1), Check.area(0, 1, 2));
        CourierRelay undone = Made.couriers(3);
        undone.undo();
        Check.fails("setArea(2, 1), the courier being undone", Check.INDEX, () -> undone.setArea(2, 1));
    }

    private static void courierFirst() {
        Check.refuses(Made::some, "setArea(2, 65536)", Check.INDEX, x -> x.setArea(2, 65536));
        Check.refuses(Made::some, "setArea(-1, -1)", Check.INDEX, x -> x.setArea(-1, -1));
        Check.refuses(Made::full, "setArea(6, -1)", Check.INDEX, x -> x.setArea(6, -1));
    }

    private static void thisOneAlone() {
        CourierRelay x = Made.couriers(3);
        x.setArea(1, 9);
        Check.is("areas", x.courier(0, 0) + " " + x.courier(1, 0) + " " + x.courier(2, 0), "7 9 28");
    }

    private static void goesOnOnTheWay() {
        CourierRelay x = Made.one(Check.area(2, 3), 2, 3, 100, 6);
        x.run(2);
        Check.is("on the way", Check.courier(x, 0), "12 1 0 1 0 0");
        Check.is("setArea(0, 0)", x.setArea(0, 0), 12);
        Check.is("still on the way", Check.courier(x, 0), "0 1 0 1 0 0");
        x.run(2);
        Check.is("it has taken it", Check.courier(x, 0), "0 2 0 2 0 0");
    }

    private static void goesOnCarrying() {
        CourierRelay x = Made.one(Check.area(0, 1, 2), 0, 3, 100, 6);
        x.run(3);
        Check.is("setArea(0, 0)", x.setArea(0, Check.area(2)), 7);
        Check.is("still carrying", Check.courier(x, 0), "4 1 0 2 0 1");
        x.run(1);
        Check.is("moved on from a zone that is not its own", Check.courier(x, 0), "4 2 0 2 0 2");
        x.run(1);
        Check.is("handed over", Check.courier(x, 0), "4 2 0 0 -1 2");
        Check.is("the parcel", Check.parcel(x, 0), "0 3 100 6 0 2 -1 0 2");
    }

    private static void undoable() {
        Check.undoable(Made::some, "setArea(0, 0)", x -> x.setArea(0, 0));
        Check.undoable(Made::some, "setArea(1, 12), which it is", x -> x.setArea(1, 12));
    }
}
