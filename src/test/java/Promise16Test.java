/** Promise 16, paidIn: a test for each sentence about a boundary. */
public final class Promise16Test {
    public static void main(String[] args) {
        Check.test("Promise 16: ticks is 0 to 200", Promise16Test::inside);
        Check.test("Promise 16: IllegalArgumentException if ticks is out of range", Promise16Test::outside);
        Check.test("Promise 16: what is paid in the last of the ticks counts", Promise16Test::lastTick);
        Check.test("Promise 16: what was paid before does not count", Promise16Test::furtherOnly);
        Check.test("Promise 16: half of it for what comes late, nothing for what fails", Promise16Test::lateAndFailed);
        Check.test("Promise 16: it goes on beyond the time 2000", Promise16Test::beyondTheEnd);
        Check.test("Promise 16: it changes nothing", Promise16Test::changesNothing);
        Check.test("Promise 16: it is what run() brings then", Promise16Test::asRun);
        Check.end();
    }

    private static CourierRelay slow() {
        CourierRelay x = new CourierRelay();
        x.addCourier(3, 0);
        for (int p = 0; p < 24; p++) {
            x.give(p % 2, 1 - p % 2, 999, 10);
        }
        return x;
    }

    private static void inside() {
        // Each parcel takes three ticks.
        Check.is("paidIn(0)", slow().paidIn(0), 0);
        Check.is("paidIn(1)", slow().paidIn(1), 0);
        Check.is("paidIn(71)", slow().paidIn(71), 230);
        Check.is("paidIn(72)", slow().paidIn(72), 240);
        Check.is("paidIn(200)", slow().paidIn(200), 240);
        CourierRelay x = new CourierRelay();
        x.addCourier(0, 0);
        x.give(0, 1, 999, 7);
        x.run(100);
        x.setArea(0, 3);
        Check.is("paidIn(199)", x.paidIn(199), 7);
    }

    private static void outside() {
        for (int ticks : new int[] {-1, 201, Integer.MIN_VALUE, Integer.MAX_VALUE}) {
            String call = "paidIn(" + ticks + ")";
            Check.refuses(Made::empty, call, Check.ARGUMENT, x -> x.paidIn(ticks));
            Check.refuses(Made::some, call, Check.ARGUMENT, x -> x.paidIn(ticks));
            Check.refuses(() -> Made.at(2000), call, Check.ARGUMENT, x -> x.paidIn(ticks));
        }
    }

    private static void lastTick() {
        CourierRelay x = Made.one(3, 0, 1, 99, 7);
        Check.is("paidIn(2)", x.paidIn(2), 0);
        Check.is("paidIn(3)", x.paidIn(3), 7);
        x.run(2);
        Check.is("paidIn(0) just before", x.paidIn(0), 0);
        Check.is("paidIn(1) just before", x.paidIn(1), 7);
    }

    private static void furtherOnly() {
        CourierRelay x = Made.one(3, 0, 1, 99, 7);
        x.give(1, 0, 99, 11);
        x.run(3);
        Check.is("paidIn(200) after the first one", x.paidIn(200), 11);
        x.run(3);
        Check.is("paidIn(200) after both", x.paidIn(200), 0);
        Check.is("paid", x.value(8), 18);
    }

    private static void lateAndFailed() {
        Check.is("late", Made.one(3, 0, 1, 2, 7).paidIn(200), 3);
        Check.is("in time", Made.one(3, 0, 1, 3, 7).paidIn(200), 7);
        CourierRelay x = Made.one(3, 0, 1, 1, 7);
        x.setGrace(0);
        Check.is("failed", x.paidIn(200), 0);
    }

    private static void beyondTheEnd() {
        for (int time : new int[] {1800, 1801, 1999, 2000}) {
            Check.answersOnly(() -> Made.at(time), "paidIn(200) at " + time, 0, x -> x.paidIn(200));
        }
    }

    private static void changesNothing() {
        Check.answersOnly(Made::some, "paidIn(0)", 0, x -> x.paidIn(0));
        Check.answersOnly(Made::some, "paidIn(200)", 9, x -> x.paidIn(200));
        CourierRelay x = Made.some();
        x.paidIn(200);
        Check.is("asked again", x.paidIn(200), 9);
        Check.is("run(200) then", x.run(200), 1);
    }

    private static void asRun() {
        for (int ticks = 0; ticks <= 40; ticks++) {
            CourierRelay x = Made.some();
            int asked = x.paidIn(ticks);
            int before = x.value(8);
            x.run(ticks);
            Check.is("paidIn(" + ticks + ")", asked, x.value(8) - before);
        }
    }
}
