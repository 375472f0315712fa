/** Promise 19, doneIn: a test for each sentence about a boundary. */
public final class Promise19Test {
    public static void main(String[] args) {
        Check.test("Promise 19: 0 if no parcel waits or is carried", Promise19Test::zero);
        Check.test("Promise 19: the tick in which the last one is delivered", Promise19Test::delivered);
        Check.test("Promise 19: the tick in which the last one fails", Promise19Test::failed);
        Check.test("Promise 19: a carried parcel is not done", Promise19Test::carried);
        Check.test("Promise 19: the longest that there can be", Promise19Test::longest);
        Check.test("Promise 19: it goes on beyond the time 2000", Promise19Test::beyondTheEnd);
        Check.test("Promise 19: it changes nothing", Promise19Test::changesNothing);
        Check.test("Promise 19: the smallest number of ticks, seen by run()", Promise19Test::asRun);
        Check.end();
    }

    private static void zero() {
        Check.is("of the empty exchange", new CourierRelay().doneIn(), 0);
        Check.is("with couriers alone", Made.couriers(6).doneIn(), 0);
        CourierRelay x = Made.one(3, 0, 1, 99, 7);
        x.run(3);
        Check.is("delivered", x.doneIn(), 0);
        CourierRelay y = Made.one(0, 0, 1, 1, 7);
        y.run(12);
        Check.is("failed", y.doneIn(), 0);
    }

    private static void delivered() {
        CourierRelay x = Made.one(3, 0, 1, 99, 7);
        Check.is("at 0", x.doneIn(), 3);
        x.run(1);
        Check.is("at 1", x.doneIn(), 2);
        x.run(1);
        Check.is("at 2", x.doneIn(), 1);
        x.run(1);
        Check.is("at 3", x.doneIn(), 0);
    }

    private static void failed() {
        CourierRelay x = Made.one(0, 0, 1, 20, 7);
        Check.is("with the grace 10", x.doneIn(), 31);
        x.setGrace(0);
        Check.is("with the grace 0", x.doneIn(), 21);
        x.run(20);
        Check.is("one tick before", x.doneIn(), 1);
        CourierRelay y = Made.at(500);
        y.give(0, 1, 1, 1);
        Check.is("over long ago", y.doneIn(), 1);
    }

    private static void carried() {
        CourierRelay x = Made.one(Made.ALL, 0, 15, 99, 7);
        x.run(2);
        Check.is("carried over six zones", x.value(5) + " " + x.doneIn(), "1 6");
        CourierRelay y = Made.one(3, 0, 2, 20, 7);
        y.run(3);
        Check.is("handed over, never to be taken", y.value(5) + " " + y.doneIn(), "1 28");
    }

    private static void longest() {
        CourierRelay x = new CourierRelay();
        x.setGrace(100);
        x.give(0, 1, 999, 7);
        Check.is("cut-off 999, grace 100", x.doneIn(), 1100);
        CourierRelay y = Made.parcels(24);
        Check.is("the last of 24 parcels", y.doneIn(), 923 + 10 + 1);
        CourierRelay z = new CourierRelay();
        z.addCourier(3, 0);
        for (int p = 0; p < 24; p++) {
            z.give(p % 2, 1 - p % 2, 999, 7);
        }
        Check.is("24 delivered, one by one", z.doneIn(), 72);
    }

    private static void beyondTheEnd() {
        for (int time : new int[] {1999, 2000}) {
            Check.answersOnly(() -> late(time), "doneIn() at " + time, 1, x -> x.doneIn());
            Check.answersOnly(() -> Made.at(time), "doneIn() without parcels at " + time, 0, x -> x.doneIn());
        }
    }

    private static CourierRelay late(int time) {
        CourierRelay x = Made.at(time);
        x.setGrace(100);
        x.give(0, 1, 999, 1000);
        return x;
    }

    private static void changesNothing() {
        Check.answersOnly(Made::some, "doneIn()", 37, x -> x.doneIn());
        CourierRelay x = Made.some();
        x.doneIn();
        Check.is("asked again", x.doneIn(), 37);
        Check.is("values", Check.values(x), "25 2 4 1 1 1 1 1 9 1 7");
    }

    private static void asRun() {
        CourierRelay x = Made.some();
        int due = x.doneIn();
        for (int k = 0; k < due; k++) {
            Check.is("waiting or carried after " + k, x.value(4) + x.value(5) > 0, true);
            x.run(1);
        }
        Check.is("waiting or carried after " + due, x.value(4) + x.value(5), 0);
    }
}
