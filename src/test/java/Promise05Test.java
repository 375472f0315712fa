/** Promise 5, setGrace: a test for each sentence about a boundary. */
public final class Promise05Test {
    public static void main(String[] args) {
        Check.test("Promise 5: grace is 0 to 100, the previous one is returned", Promise05Test::inside);
        Check.test("Promise 5: IllegalArgumentException if grace is out of range", Promise05Test::outside);
        Check.test("Promise 5: a parcel fails by the grace of the tick", Promise05Test::graceOfTheTick);
        Check.test("Promise 5: what has failed stays failed", Promise05Test::failedStays);
        Check.test("Promise 5: the grace 0", Promise05Test::graceZero);
        Check.test("Promise 5: the grace 100", Promise05Test::graceHundred);
        Check.test("Promise 5: undoable, even if the grace stays", Promise05Test::undoable);
        Check.end();
    }

    private static void inside() {
        CourierRelay x = new CourierRelay();
        int previous = 10;
        for (int grace : new int[] {0, 100, 1, 99, 99, 10}) {
            Check.is("setGrace(" + grace + ")", x.setGrace(grace), previous);
            Check.is("the grace", x.value(3), grace);
            previous = grace;
        }
    }

    private static void outside() {
        for (int grace : new int[] {-1, 101, 110, Integer.MIN_VALUE, Integer.MAX_VALUE}) {
            String call = "setGrace(" + grace + ")";
            Check.refuses(Made::empty, call, Check.ARGUMENT, x -> x.setGrace(grace));
            Check.refuses(Made::some, call, Check.ARGUMENT, x -> x.setGrace(grace));
            Check.refuses(Made::full, call, Check.ARGUMENT, x -> x.setGrace(grace));
        }
    }

    private static void graceOfTheTick() {
        CourierRelay x = new CourierRelay();
        x.give(0, 1, 5, 1);
        x.run(15);
        x.setGrace(0);
        Check.is("state before the tick", x.parcel(0, 4), 0);
        x.run(1);
        Check.is("state after it", x.parcel(0, 4), 3);
        CourierRelay y = new CourierRelay();
        y.give(0, 1, 5, 1);
        y.run(15);
        y.setGrace(11);
        y.run(1);
        Check.is("state by a greater grace", y.parcel(0, 4), 0);
        y.run(1);
        Check.is("state at its end", y.parcel(0, 4), 3);
    }

    private static void failedStays() {
        CourierRelay x = Made.one(3, 0, 1, 1, 5);
        x.setArea(0, 0);
        x.run(12);
        Check.is("failed", x.parcel(0, 4), 3);
        x.setGrace(100);
        x.setArea(0, 3);
        x.run(9);
        Check.is("still failed", Check.parcel(x, 0), "0 1 1 5 3 0 -1 0 0");
        Check.is("its courier", Check.courier(x, 0), "3 0 0 0 -1 0");
    }

    private static void graceZero() {
        CourierRelay x = new CourierRelay();
        x.setGrace(0);
        x.give(0, 1, 1, 1);
        x.run(1);
        Check.is("state at the cut-off", x.parcel(0, 4), 0);
        x.run(1);
        Check.is("state one tick later", x.parcel(0, 4), 3);
    }

    private static void graceHundred() {
        CourierRelay x = new CourierRelay();
        x.setGrace(100);
        x.give(0, 1, 1, 1);
        x.run(101);
        Check.is("state at the cut-off plus 100", x.parcel(0, 4), 0);
        x.run(1);
        Check.is("state one tick later", x.parcel(0, 4), 3);
    }

    private static void undoable() {
        Check.undoable(Made::empty, "setGrace(0)", x -> x.setGrace(0));
        Check.undoable(Made::some, "setGrace(100)", x -> x.setGrace(100));
        Check.undoable(Made::some, "setGrace(1), which it is", x -> x.setGrace(1));
    }
}
