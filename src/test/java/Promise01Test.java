/** Promise 1, a new object: each sentence about the empty exchange. */
public final class Promise01Test {
    public static void main(String[] args) {
        Check.test("Promise 1: NONE is -1", Promise01Test::none);
        Check.test("Promise 1: a new object is without couriers", Promise01Test::withoutCouriers);
        Check.test("Promise 1: a new object is without parcels", Promise01Test::withoutParcels);
        Check.test("Promise 1: a new object is at time 0", Promise01Test::atTimeZero);
        Check.test("Promise 1: the grace is initially 10", Promise01Test::graceTen);
        Check.test("Promise 1: nothing is paid, handed over or moved yet", Promise01Test::nothingDone);
        Check.test("Promise 1: the text of a new object is empty", Promise01Test::emptyText);
        Check.test("Promise 1: a new object has no saved state", Promise01Test::nothingSaved);
        Check.test("Promise 1: ticks pass in the empty exchange", Promise01Test::emptyTicks);
        Check.test("Promise 1: what is asked of the empty exchange", Promise01Test::emptyQuestions);
        Check.test("Promise 1: objects have nothing in common", Promise01Test::objectsApart);
        Check.test("Promise 1: an object answers 512 calls", Promise01Test::manyCalls);
        Check.end();
    }

    private static void none() {
        Check.is("NONE", CourierRelay.NONE, -1);
    }

    private static void withoutCouriers() {
        Check.is("value(1)", new CourierRelay().value(1), 0);
        Check.refuses(Made::empty, "courier(0, 0)", Check.INDEX, x -> x.courier(0, 0));
        Check.refuses(Made::empty, "courier(-1, 0)", Check.INDEX, x -> x.courier(-1, 0));
        Check.refuses(Made::empty, "setArea(0, 0)", Check.INDEX, x -> x.setArea(0, 0));
        Check.refuses(Made::empty, "drop(0)", Check.INDEX, x -> x.drop(0));
        Check.refuses(Made::empty, "bestZone(0, 0)", Check.INDEX, x -> x.bestZone(0, 0));
        Check.refuses(Made::empty, "worth(0, 0)", Check.INDEX, x -> x.worth(0, 0));
    }

    private static void withoutParcels() {
        CourierRelay x = new CourierRelay();
        for (int what : new int[] {2, 4, 5, 6, 7}) {
            Check.is("value(" + what + ")", x.value(what), 0);
        }
        Check.refuses(Made::empty, "parcel(0, 0)", Check.INDEX, y -> y.parcel(0, 0));
        Check.refuses(Made::empty, "parcel(-1, 0)", Check.INDEX, y -> y.parcel(-1, 0));
        Check.refuses(Made::empty, "suited(0)", Check.INDEX, y -> y.suited(0));
        Check.refuses(Made::empty, "leastRelay(0)", Check.INDEX, y -> y.leastRelay(0));
        Check.refuses(Made::empty, "legs(0, 0, true)", Check.INDEX, y -> y.legs(0, 0, true));
        Check.refuses(Made::empty, "legs(0, 0, false)", Check.INDEX, y -> y.legs(0, 0, false));
    }

    private static void atTimeZero() {
        Check.is("value(0)", new CourierRelay().value(0), 0);
    }

    private static void graceTen() {
        CourierRelay x = new CourierRelay();
        Check.is("value(3)", x.value(3), 10);
        x.give(0, 1, 1, 0);
        x.run(11);
        Check.is("state at the cut-off plus 10", x.parcel(0, 4), 0);
        x.run(1);
        Check.is("state one tick later", x.parcel(0, 4), 3);
    }

    private static void nothingDone() {
        CourierRelay x = new CourierRelay();
        Check.is("paid", x.value(8), 0);
        Check.is("handovers", x.value(9), 0);
        Check.is("moves", x.value(10), 0);
    }

    private static void emptyText() {
        Check.is("clearText()", new CourierRelay().clearText(), 0);
        Check.is("parse()", new CourierRelay().parse(), 0);
        Check.is("append('1')", new CourierRelay().append('1'), 1);
    }

    private static void nothingSaved() {
        Check.refuses(Made::empty, "undo()", Check.STATE, x -> x.undo());
    }

    private static void emptyTicks() {
        CourierRelay x = new CourierRelay();
        Check.is("run(200)", x.run(200), 0);
        Check.is("values", Check.values(x), "200 0 0 10 0 0 0 0 0 0 0");
    }

    private static void emptyQuestions() {
        Check.answersOnly(Made::empty, "punctuality()", 1.0, x -> x.punctuality());
        Check.answersOnly(Made::empty, "paidIn(0)", 0, x -> x.paidIn(0));
        Check.answersOnly(Made::empty, "paidIn(200)", 0, x -> x.paidIn(200));
        Check.answersOnly(Made::empty, "doneIn()", 0, x -> x.doneIn());
        Check.answersOnly(Made::empty, "distance(0, 15)", 6, x -> x.distance(0, 15));
    }

    private static void objectsApart() {
        CourierRelay x = new CourierRelay();
        CourierRelay other = new CourierRelay();
        other.addCourier(3, 0);
        other.give(0, 1, 50, 9);
        other.setGrace(3);
        other.run(4);
        other.append('1');
        Check.is("values", Check.values(x), "0 0 0 10 0 0 0 0 0 0 0");
        Check.is("clearText()", x.clearText(), 0);
        Check.fails("undo()", Check.STATE, () -> x.undo());
        Check.is("what a new one is then", Check.inside(new CourierRelay()), Check.inside(x));
        x.addCourier(65535, 15);
        x.run(9);
        Check.is("the other one", Check.courier(other, 0), "3 1 9 0 -1 1");
        Check.is("the other one's time", other.value(0), 4);
    }

    /** The last of 512 calls is answered like the first. */
    private static void manyCalls() {
        CourierRelay x = new CourierRelay();
        for (int k = 0; k < 127; k++) {
            x.setGrace(k % 100);
            x.addCourier(3, 1);
            x.undo();
            x.undo();
        }
        x.addCourier(3, 0);
        x.give(0, 1, 99, 5);
        Check.is("call 511, paidIn(3)", x.paidIn(3), 5);
        Check.is("call 512, run(3)", x.run(3), 1);
    }
}
