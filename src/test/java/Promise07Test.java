/** Promise 7, run: a test for each sentence about a boundary of the call itself. */
public final class Promise07Test {
    public static void main(String[] args) {
        Check.test("Promise 7: ticks is 0 to 200", Promise07Test::ticksInside);
        Check.test("Promise 7: IllegalArgumentException if ticks is out of range", Promise07Test::ticksOutside);
        Check.test("Promise 7: IllegalStateException if the time would be above 2000", Promise07Test::lastTime);
        Check.test("Promise 7: the wrong argument comes before the last time", Promise07Test::argumentFirst);
        Check.test("Promise 7: run(0) changes nothing", Promise07Test::noTicks);
        Check.test("Promise 7: returns the parcels that are delivered in these ticks", Promise07Test::delivered);
        Check.test("Promise 7: many ticks are as many single ones", Promise07Test::oneByOne);
        Check.test("Promise 7: undoable, even if no tick passes", Promise07Test::undoable);
        Check.end();
    }

    private static void ticksInside() {
        int time = 0;
        CourierRelay x = new CourierRelay();
        for (int ticks : new int[] {0, 1, 199, 200, 0}) {
            Check.is("run(" + ticks + ")", x.run(ticks), 0);
            time += ticks;
            Check.is("the time", x.value(0), time);
        }
    }

    private static void ticksOutside() {
        for (int ticks : new int[] {-1, 201, Integer.MIN_VALUE, Integer.MAX_VALUE}) {
            String call = "run(" + ticks + ")";
            Check.refuses(Made::empty, call, Check.ARGUMENT, x -> x.run(ticks));
            Check.refuses(Made::some, call, Check.ARGUMENT, x -> x.run(ticks));
            Check.refuses(Made::full, call, Check.ARGUMENT, x -> x.run(ticks));
        }
    }

    private static void lastTime() {
        CourierRelay x = Made.at(1800);
        Check.is("run(200) at 1800", x.run(200), 0);
        Check.is("the time", x.value(0), 2000);
        Check.refuses(() -> Made.at(1801), "run(200) at 1801", Check.STATE, y -> y.run(200));
        Check.is("run(199) at 1801", Made.at(1801).run(199), 0);
        Check.refuses(() -> Made.at(1999), "run(2) at 1999", Check.STATE, y -> y.run(2));
        Check.is("run(1) at 1999", Made.at(1999).run(1), 0);
        Check.refuses(() -> Made.at(2000), "run(1) at 2000", Check.STATE, y -> y.run(1));
        Check.refuses(() -> Made.at(2000), "run(200) at 2000", Check.STATE, y -> y.run(200));
        Check.is("run(0) at 2000", Made.at(2000).run(0), 0);
        CourierRelay undone = Made.at(2000);
        undone.undo();
        Check.is("the time after undo", undone.value(0), 1800);
        Check.is("run(200) after undo", undone.run(200), 0);
    }

    private static void argumentFirst() {
        for (int ticks : new int[] {-1, 201, Integer.MIN_VALUE, Integer.MAX_VALUE}) {
            Check.refuses(() -> Made.at(2000), "run(" + ticks + ") at 2000", Check.ARGUMENT, x -> x.run(ticks));
        }
    }

    private static void noTicks() {
        CourierRelay x = Made.some();
        String before = Check.all(x);
        Check.is("run(0)", x.run(0), 0);
        Check.is("all", Check.all(x), before);
        CourierRelay y = Made.one(3, 0, 1, 9, 5);
        y.run(0);
        Check.is("nobody chose", Check.courier(y, 0), "3 0 0 0 -1 0");
    }

    private static void delivered() {
        CourierRelay x = Made.one(3, 0, 1, 99, 5);
        x.give(1, 0, 99, 5);
        x.give(9, 8, 1, 5);
        Check.is("run(2), nothing yet", x.run(2), 0);
        Check.is("run(1), the first one", x.run(1), 1);
        Check.is("run(2), nothing more yet", x.run(2), 0);
        Check.is("run(1), the second one, not the first one again", x.run(1), 1);
        Check.is("run(50), the failed one does not count", x.run(50), 0);
        CourierRelay y = Made.one(3, 0, 1, 99, 5);
        y.give(1, 0, 99, 5);
        y.give(0, 1, 1, 5);
        y.setGrace(100);
        Check.is("run(200), late ones count", y.run(200), 3);
        CourierRelay z = new CourierRelay();
        for (int c = 0; c < 6; c++) {
            z.addCourier(Made.ALL, c);
        }
        for (int p = 0; p < 24; p++) {
            z.give(p % 16, (p + 5) % 16, 150 + p, 5);
        }
        Check.is("run(200), all", z.run(200), 24);
    }

    private static void oneByOne() {
        CourierRelay x = Made.some();
        CourierRelay y = Made.some();
        int single = 0;
        x.give(0, 2, 40, 7);
        y.give(0, 2, 40, 7);
        int many = x.run(70);
        for (int k = 0; k < 70; k++) {
            single += y.run(1);
        }
        Check.is("delivered", many, single);
        Check.is("all", Check.all(x), Check.all(y));
    }

    private static void undoable() {
        Check.undoable(Made::some, "run(0)", x -> x.run(0));
        Check.undoable(Made::some, "run(1)", x -> x.run(1));
        Check.undoable(Made::some, "run(200)", x -> x.run(200));
        Check.undoable(Made::empty, "run(200)", x -> x.run(200));
    }
}
