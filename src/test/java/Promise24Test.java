/** Promise 24, digest: a test for each value that goes into it and for each sentence about a boundary. */
public final class Promise24Test {
    public static void main(String[] args) {
        Check.test("Promise 24: of a new object", Promise24Test::newObject);
        Check.test("Promise 24: the length of the text, 0 to 150", Promise24Test::textLength);
        Check.test("Promise 24: the values of the couriers", Promise24Test::couriers);
        Check.test("Promise 24: the values of the parcels, without couriers", Promise24Test::parcels);
        Check.test("Promise 24: for each courier of a parcel the legs and the share", Promise24Test::legsAndShares);
        Check.test("Promise 24: of the full exchange", Promise24Test::full);
        Check.test("Promise 24: the number of saved states, 0 to 4", Promise24Test::savedStates);
        Check.test("Promise 24: the overflow is ignored", Promise24Test::overflow);
        Check.test("Promise 24: values below 0", Promise24Test::belowZero);
        Check.test("Promise 24: equal states, equal digests", Promise24Test::equalStates);
        Check.test("Promise 24: it changes nothing", Promise24Test::changesNothing);
        Check.end();
    }

    private static long hash(String values) {
        long h = 3313;
        for (String value : values.trim().split(" +")) {
            h = 31 * h + Long.parseLong(value);
        }
        return h;
    }

    private static void newObject() {
        Check.is("digest()", new CourierRelay().digest(), hash("0  0 0 0 10 0 0 0 0 0 0 0  0"));
    }

    private static void textLength() {
        CourierRelay x = new CourierRelay();
        for (int length = 1; length <= 150; length++) {
            x.append(length % 128);
            Check.is("digest()", x.digest(), hash(length + "  0 0 0 10 0 0 0 0 0 0 0  0"));
        }
        CourierRelay y = new CourierRelay();
        y.append('x');
        CourierRelay z = new CourierRelay();
        z.append('y');
        Check.is("not its bytes", y.digest(), z.digest());
    }

    private static void couriers() {
        CourierRelay x = new CourierRelay();
        x.addCourier(65535, 15);
        Check.is("one", x.digest(), hash("0  0 1 0 10 0 0 0 0 0 0 0  65535 15 0 0 -1 0  1"));
        x.addCourier(7, 3);
        Check.is("two", x.digest(), hash("0  0 2 0 10 0 0 0 0 0 0 0  65535 15 0 0 -1 0  7 3 0 0 -1 0  2"));
        StringBuilder due = new StringBuilder("0  0 6 0 10 0 0 0 0 0 0 0 ");
        for (int c = 0; c < 6; c++) {
            due.append(' ').append(7 << c).append(' ').append(c).append(" 0 0 -1 0");
        }
        Check.is("six", Made.couriers(6).digest(), hash(due + " 4"));
    }

    private static void parcels() {
        CourierRelay x = new CourierRelay();
        x.give(1, 2, 3, 4);
        Check.is("one", x.digest(), hash("0  0 0 1 10 1 0 0 0 0 0 0  1 2 3 4 0 1 -1 0 0  1"));
        StringBuilder due = new StringBuilder("0  0 0 24 10 24 0 0 0 0 0 0 ");
        for (int p = 0; p < 24; p++) {
            due.append(p % 16 + " " + (p + 1) % 16 + " " + (900 + p) + " " + p + " 0 " + p % 16 + " -1 0 0 ");
        }
        Check.is("24", Made.parcels(24).digest(), hash(due + " 4"));
    }

    private static void legsAndShares() {
        CourierRelay x = new CourierRelay();
        x.addCourier(Check.area(0, 1, 2), 0);
        x.addCourier(Check.area(2, 3), 3);
        x.addCourier(0, 9);
        x.give(0, 3, 50, 11);
        x.run(20);
        Check.is("legs", Check.legs(x, 0, false), "2 1 0");
        Check.is("shares", Check.legs(x, 0, true), "7 4 0");
        Check.is("digest()", x.digest(), hash("0  20 3 1 10 0 0 1 0 11 1 4  7 2 7 0 -1 2  12 3 4 0 -1 1  0 9 0 0 -1 0 "
                + " 0 3 50 11 2 3 8 11 3  2 7 1 4 0 0  4"));
    }

    /** From the answers of three objects that are alike: one alone would have too many calls. */
    private static void full() {
        CourierRelay x = Made.full();
        CourierRelay y = Made.full();
        CourierRelay z = Made.full();
        StringBuilder due = new StringBuilder("150 ").append(Check.values(x));
        for (int c = 0; c < 6; c++) {
            due.append(' ').append(Check.courier(x, c));
        }
        for (int p = 0; p < 24; p++) {
            due.append(' ').append(Check.parcel(y, p));
            for (int c = 0; c < 6; c++) {
                due.append(' ').append(z.legs(p, c, false)).append(' ').append(z.legs(p, c, true));
            }
        }
        Check.is("couriers and parcels", x.value(1) + " " + x.value(2), "6 24");
        for (int what = 4; what <= 7; what++) {
            Check.is("value(" + what + ") is above 0", x.value(what) > 0, true);
        }
        Check.is("digest()", x.digest(), hash(due + " 4"));
    }

    private static void savedStates() {
        CourierRelay x = new CourierRelay();
        for (int calls = 1; calls <= 6; calls++) {
            x.setGrace(10);
            Check.is("after " + calls, x.digest(), hash("0  0 0 0 10 0 0 0 0 0 0 0 " + Math.min(calls, 4)));
        }
        for (int left = 3; left >= 0; left--) {
            x.undo();
            Check.is(left + " left", x.digest(), hash("0  0 0 0 10 0 0 0 0 0 0 0 " + left));
        }
    }

    private static void overflow() {
        java.math.BigInteger h = java.math.BigInteger.valueOf(3313);
        String values = "0 0 2 0 10 0 0 0 0 0 0 0 7 0 0 0 -1 0 14 1 0 0 -1 0 2";
        for (String value : values.split(" ")) {
            h = h.multiply(java.math.BigInteger.valueOf(31)).add(new java.math.BigInteger(value));
        }
        Check.is("the hash does not fit", h.bitLength() > 64, true);
        Check.is("its low 64 bits", Made.couriers(2).digest(), h.longValue());
    }

    private static void belowZero() {
        CourierRelay x = Made.one(3, 0, 1, 9, 5);
        Check.is("NONE, twice", x.digest(),
                hash("0  0 1 1 10 1 0 0 0 0 0 0  3 0 0 0 -1 0  0 1 9 5 0 0 -1 0 0  0 0  2"));
        x.run(2);
        Check.is("NONE, once", x.digest(),
                hash("0  2 1 1 10 0 1 0 0 0 0 0  3 0 0 2 0 0  0 1 9 5 1 0 -1 0 0  0 0  3"));
    }

    private static void equalStates() {
        Check.is("made alike", Made.full().digest(), Made.full().digest());
        CourierRelay x = Made.one(3, 0, 1, 9, 5);
        long before = x.digest();
        x.run(9);
        x.undo();
        Check.is("after undo()", x.digest(), before);
        x.append('1');
        x.clearText();
        Check.is("after append() and clearText()", x.digest(), before);
    }

    private static void changesNothing() {
        CourierRelay x = Made.full();
        long before = x.digest();
        Check.is("asked again", x.digest(), before);
        Check.is("states", Check.states(x), 4);
    }
}
