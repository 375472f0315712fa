/** Exchanges with a past, to begin a test with: each call makes a new one, always the same. */
final class Made {
    static final int ALL = 65535;

    private Made() {
    }

    static CourierRelay empty() {
        return new CourierRelay();
    }

    static CourierRelay couriers(int count) {
        CourierRelay x = new CourierRelay();
        for (int c = 0; c < count; c++) {
            x.addCourier(Check.area(c, c + 1, c + 2), c);
        }
        return x;
    }

    static CourierRelay parcels(int count) {
        CourierRelay x = new CourierRelay();
        for (int p = 0; p < count; p++) {
            x.give(p % 16, (p + 1) % 16, 900 + p, p);
        }
        return x;
    }

    /** Without couriers and parcels, at a time. */
    static CourierRelay at(int time) {
        CourierRelay x = new CourierRelay();
        for (int left = time; left > 0; left -= 200) {
            x.run(Math.min(left, 200));
        }
        return x;
    }

    /** One courier in zone 0 with this area, and one parcel. */
    static CourierRelay one(int area, int from, int to, int cutOff, int tip) {
        CourierRelay x = new CourierRelay();
        x.addCourier(area, 0);
        x.give(from, to, cutOff, tip);
        return x;
    }

    /** Two couriers, a parcel of each state, a text of two items, and two saved states. */
    static CourierRelay some() {
        CourierRelay x = new CourierRelay();
        x.addCourier(Check.area(0, 1, 2), 0);
        x.addCourier(Check.area(2, 3), 3);
        x.setGrace(1);
        x.give(0, 3, 50, 9);
        x.give(8, 9, 1, 5);
        x.give(8, 9, 60, 5);
        x.run(20);
        x.give(0, 3, 60, 9);
        x.run(5);
        x.run(0);
        x.run(0);
        x.undo();
        x.undo();
        Check.write(x, "5,6,70,8;6,5,80,9;");
        return x;
    }

    /** Six couriers, 24 parcels of all states, a text of 150 bytes and four saved states. */
    static CourierRelay full() {
        CourierRelay x = new CourierRelay();
        for (int c = 0; c < 6; c++) {
            x.addCourier(Check.area(c, c + 1, c + 2, c + 4, c + 5), c);
        }
        for (int p = 0; p < 13; p++) {
            x.give(p, p + 2, p < 3 || p > 10 ? 1 + p % 3 : 90 + p, 100 + p);
        }
        x.run(23);
        Check.write(x, "00,01,101,0001;00,02,102,0002;00,03,103,0003;00,04,104,0004;00,05,105,0005;"
                + "00,06,106,0006;00,07,107,0007;00,08,108,0008;00,09,109,0009;00,10,110,0010;");
        x.give(15, 0, 999, 1000);
        x.parse();
        x.setGrace(20);
        x.run(3);
        return x;
    }
}
