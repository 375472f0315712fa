/** Promise 23, undo: a test for each sentence of "Undo" and about a boundary. */
public final class Promise23Test {
    public static void main(String[] args) {
        Check.test("Promise 23: IllegalStateException if there is no saved state", Promise23Test::noState);
        Check.test("Promise 23: returns the number of saved states that remain", Promise23Test::remain);
        Check.test("Promise 23: the most recently saved state", Promise23Test::mostRecent);
        Check.test("Promise 23: at most 4, the oldest is dropped first", Promise23Test::oldestDropped);
        Check.test("Promise 23: the oldest is dropped by each undoable call", Promise23Test::droppedByEach);
        Check.test("Promise 23: saved after an undo", Promise23Test::savedAfterUndo);
        Check.test("Promise 23: a call that changes nothing saves a state", Promise23Test::changesNothing);
        Check.test("Promise 23: a refused call saves none, and drops none", Promise23Test::refused);
        Check.test("Promise 23: a question saves none, and drops none", Promise23Test::questions);
        Check.test("Promise 23: the saved state contains everything", Promise23Test::everything);
        Check.test("Promise 23: all goes on from there as it did before", Promise23Test::goesOn);
        Check.test("Promise 23: but the parcel text", Promise23Test::notTheText);
        Check.test("Promise 23: what is restored is as new", Promise23Test::asNew);
        Check.end();
    }

    private static void noState() {
        Check.refuses(Made::empty, "undo()", Check.STATE, x -> x.undo());
        CourierRelay x = new CourierRelay();
        x.setGrace(5);
        x.undo();
        Check.fails("undo() after the last one", Check.STATE, () -> x.undo());
        Check.fails("undo() once more", Check.STATE, () -> x.undo());
        x.setGrace(6);
        Check.is("undo() of a new one", x.undo(), 0);
        CourierRelay full = Made.full();
        for (int k = 0; k < 4; k++) {
            full.undo();
        }
        long before = full.digest();
        Check.fails("undo() after four", Check.STATE, () -> full.undo());
        Check.is("the digest", full.digest(), before);
    }

    private static CourierRelay graces(int calls) {
        CourierRelay x = new CourierRelay();
        for (int k = 1; k <= calls; k++) {
            x.setGrace(20 + k);
        }
        return x;
    }

    private static void remain() {
        for (int calls = 1; calls <= 9; calls++) {
            Check.is("undo() after " + calls, graces(calls).undo(), Math.min(calls, 4) - 1);
        }
        CourierRelay x = graces(4);
        for (int left = 3; left >= 0; left--) {
            Check.is("undo()", x.undo(), left);
        }
    }

    private static void mostRecent() {
        CourierRelay x = graces(3);
        x.undo();
        Check.is("the grace", x.value(3), 22);
        x.undo();
        Check.is("the grace before it", x.value(3), 21);
        x.undo();
        Check.is("the grace at first", x.value(3), 10);
    }

    private static void oldestDropped() {
        for (int calls = 3; calls <= 17; calls++) {
            CourierRelay x = graces(calls);
            int steps = Math.min(calls, 4);
            for (int k = 1; k <= steps; k++) {
                x.undo();
            }
            Check.is("the oldest one of " + calls, x.value(3), calls <= 4 ? 10 : 20 + calls - 4);
            Check.fails("undo() after it", Check.STATE, () -> x.undo());
        }
    }

    /** Grace 21 to 24 and a parcel text of one item; the state before the grace 21 is the oldest. */
    private static CourierRelay marked() {
        CourierRelay x = Made.couriers(1);
        Check.write(x, "5,6,7,8;");
        for (int k = 1; k <= 4; k++) {
            x.setGrace(20 + k);
        }
        return x;
    }

    private static void dropped(String call, Check.CallOn body) {
        CourierRelay x = marked();
        body.answer(x);
        StringBuilder graces = new StringBuilder();
        for (int k = 0; k < 4; k++) {
            graces.append(Check.outcome(x::undo)).append(':').append(x.value(3)).append(' ');
        }
        Check.is("undo() four times after " + call, graces.toString(), "3:24 2:23 1:22 0:21 ");
        Check.fails("undo() a fifth time after " + call, Check.STATE, () -> x.undo());
    }

    private static void droppedByEach() {
        dropped("addCourier", x -> x.addCourier(1, 1));
        dropped("setArea", x -> x.setArea(0, 1));
        dropped("give", x -> x.give(0, 1, 2, 3));
        dropped("setGrace", x -> x.setGrace(99));
        dropped("drop", x -> x.drop(0));
        dropped("run", x -> x.run(9));
        dropped("parse", x -> x.parse());
    }

    private static void savedAfterUndo() {
        for (int undone = 1; undone <= 4; undone++) {
            CourierRelay x = graces(9);
            for (int k = 0; k < undone; k++) {
                x.undo();
            }
            int grace = x.value(3);
            x.setGrace(50);
            x.setGrace(51);
            Check.is("undo() after " + undone, x.undo(), Math.min(4 - undone + 2, 4) - 1);
            Check.is("the grace", x.value(3), 50);
            x.undo();
            Check.is("the grace before it", x.value(3), grace);
            int left = Math.min(4 - undone, 2);
            for (int k = left - 1; k >= 0; k--) {
                Check.is("undo() of an older one", x.undo(), k);
                Check.is("the older grace", x.value(3), --grace);
            }
            Check.fails("undo() after the oldest one", Check.STATE, () -> x.undo());
        }
    }

    private static void changesNothing() {
        Check.undoable(Made::some, "setArea, the same", x -> x.setArea(0, 7));
        Check.undoable(Made::some, "setGrace, the same", x -> x.setGrace(1));
        Check.undoable(Made::some, "drop of a free one", x -> x.drop(1));
        Check.undoable(Made::some, "run(0)", x -> x.run(0));
        Check.undoable(Promise23Test::someWithoutText, "parse without items", x -> x.parse());
        CourierRelay x = Made.some();
        x.setArea(0, 7);
        x.setGrace(1);
        Check.is("states then", Check.states(x), 4);
    }

    private static CourierRelay someWithoutText() {
        CourierRelay x = Made.some();
        x.clearText();
        return x;
    }

    private static void refused() {
        CourierRelay x = marked();
        Check.fails("addCourier", Check.ARGUMENT, () -> x.addCourier(-1, 0));
        Check.fails("setArea", Check.INDEX, () -> x.setArea(1, 0));
        Check.fails("setArea", Check.ARGUMENT, () -> x.setArea(0, -1));
        Check.fails("give", Check.ARGUMENT, () -> x.give(0, 0, 1, 1));
        Check.fails("setGrace", Check.ARGUMENT, () -> x.setGrace(101));
        Check.fails("drop", Check.INDEX, () -> x.drop(1));
        Check.fails("run", Check.ARGUMENT, () -> x.run(201));
        x.append('x');
        Check.is("parse", x.parse(), -18);
        for (int k = 0; k < 4; k++) {
            x.undo();
        }
        Check.is("the oldest state is still there", x.value(3), 10);
    }

    private static void questions() {
        CourierRelay x = marked();
        x.give(0, 1, 5, 6);
        x.undo();
        x.setGrace(24);
        String before = Check.all(x);
        x.value(0);
        x.courier(0, 0);
        x.distance(0, 1);
        x.punctuality();
        x.paidIn(200);
        x.bestZone(0, 200);
        x.worth(0, 200);
        x.doneIn();
        x.digest();
        x.append('1');
        x.clearText();
        Check.is("all", Check.all(x), before);
        Check.is("states", Check.states(x), 4);
        Check.is("the grace at last", x.value(3), 21);
    }

    private static void restored(String call, Check.CallOn body) {
        CourierRelay x = Made.some();
        String before = Check.all(x);
        body.answer(x);
        x.undo();
        Check.is("all after " + call + " and undo()", Check.all(x), before);
    }

    private static void everything() {
        restored("addCourier", x -> x.addCourier(1, 1));
        restored("setArea", x -> x.setArea(0, 1));
        restored("give", x -> x.give(0, 1, 2, 3));
        restored("setGrace", x -> x.setGrace(99));
        restored("drop of a carrying one", x -> x.drop(0));
        restored("drop of a free one", x -> x.drop(1));
        restored("parse", x -> x.parse());
        for (int ticks = 0; ticks <= 45; ticks++) {
            int passing = ticks;
            restored("run(" + ticks + ")", x -> x.run(passing));
        }
    }

    /** The same calls, with something done and undone between them, and without it. */
    private static void goesOn() {
        for (int ticks = 0; ticks <= 30; ticks++) {
            CourierRelay x = Made.some();
            CourierRelay plain = Made.some();
            x.parse();
            plain.parse();
            x.run(ticks);
            plain.run(ticks);
            x.setArea(0, Made.ALL);
            x.undo();
            x.drop(0);
            x.undo();
            x.run(25);
            x.undo();
            x.run(25);
            plain.run(25);
            Check.is("all after " + ticks + " and 25 ticks", Check.all(x), Check.all(plain));
        }
    }

    private static void notTheText() {
        CourierRelay x = new CourierRelay();
        Check.write(x, "1,2,3,4;");
        x.setGrace(5);
        x.append('5');
        x.undo();
        Check.is("what was appended stays", x.parse(), -19);
        Check.is("clearText()", x.clearText(), 9);
        x.setGrace(5);
        x.undo();
        Check.is("what was cleared stays away", x.clearText(), 0);
        Check.write(x, "1,2,3,4;");
        x.parse();
        x.undo();
        Check.is("what was parsed stays", x.parse(), 1);
    }

    private static void asNew() {
        CourierRelay x = Made.one(3, 0, 1, 9, 5);
        x.run(3);
        x.undo();
        x.undo();
        x.undo();
        Check.is("values", Check.values(x), "0 0 0 10 0 0 0 0 0 0 0");
        Check.is("all that is inside", Check.inside(x), Check.inside(new CourierRelay()));
        Check.is("give(1, 0, 9, 5)", x.give(1, 0, 9, 5), 0);
        Check.is("addCourier(3, 1)", x.addCourier(3, 1), 0);
        Check.is("the parcel", Check.parcel(x, 0), "1 0 9 5 0 1 -1 0 0");
        Check.is("the courier", Check.courier(x, 0), "3 1 0 0 -1 0");
        Check.is("legs and shares", Check.legs(x, 0, false) + Check.legs(x, 0, true), "00");
    }
}
