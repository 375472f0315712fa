/** Promise 13, suited: a test for each sentence about a boundary. */
public final class Promise13Test {
    public static void main(String[] args) {
        Check.test("Promise 13: the couriers whom a waiting parcel suits", Promise13Test::waiting);
        Check.test("Promise 13: as if it were waiting where it is", Promise13Test::whereItIs);
        Check.test("Promise 13: 0 if it is delivered", Promise13Test::delivered);
        Check.test("Promise 13: 0 if it has failed", Promise13Test::failed);
        Check.test("Promise 13: none, and all six", Promise13Test::noneAndAll);
        Check.test("Promise 13: IndexOutOfBoundsException if there is no such parcel", Promise13Test::noSuchParcel);
        Check.test("Promise 13: it changes nothing", Promise13Test::changesNothing);
        Check.end();
    }

    private static void waiting() {
        CourierRelay x = new CourierRelay();
        x.addCourier(Check.area(5, 6), 15);
        x.addCourier(Made.ALL - Check.area(5), 5);
        x.addCourier(Made.ALL - Check.area(6), 5);
        x.addCourier(Check.area(5, 9), 5);
        x.addCourier(Made.ALL, 0);
        x.give(5, 10, 99, 1);
        Check.is("both zones, wherever the courier is", x.suited(0), 0b10001);
        x.give(5, 13, 99, 1);
        Check.is("in a column", x.suited(1), 0b11100);
    }

    private static void whereItIs() {
        CourierRelay x = new CourierRelay();
        x.addCourier(Check.area(0, 1, 2), 0);
        x.addCourier(Check.area(0, 1), 9);
        x.addCourier(Check.area(1, 2), 9);
        x.addCourier(Check.area(2, 3), 9);
        x.give(0, 3, 99, 1);
        Check.is("waiting", x.suited(0), 0b0011);
        x.run(2);
        Check.is("taken", x.suited(0), 0b0011);
        x.run(1);
        Check.is("carried to zone 1", x.suited(0), 0b0101);
        x.run(1);
        Check.is("carried to zone 2, its courier can't go on", x.suited(0), 0b1000);
        x.drop(0);
        Check.is("dropped in zone 2", x.suited(0), 0b1000);
    }

    private static void delivered() {
        CourierRelay x = Made.one(Made.ALL, 0, 1, 99, 1);
        Check.is("waiting", x.suited(0), 1);
        x.run(3);
        Check.is("delivered", x.parcel(0, 4) + " " + x.suited(0), "2 0");
    }

    private static void failed() {
        CourierRelay x = Made.one(Made.ALL, 0, 3, 1, 1);
        x.setGrace(1);
        x.run(2);
        Check.is("carried", x.suited(0), 1);
        x.run(1);
        Check.is("failed", x.parcel(0, 4) + " " + x.suited(0), "3 0");
    }

    private static void noneAndAll() {
        Check.is("without couriers", Made.parcels(1).suited(0), 0);
        CourierRelay x = new CourierRelay();
        for (int c = 0; c < 6; c++) {
            x.addCourier(3, c);
        }
        x.give(0, 1, 99, 1);
        x.give(1, 0, 99, 1);
        x.give(2, 1, 99, 1);
        Check.is("all six", x.suited(0) + " " + x.suited(1), "63 63");
        Check.is("none of six", x.suited(2), 0);
    }

    private static void noSuchParcel() {
        for (int number : new int[] {-1, 4, 23, 24, Integer.MIN_VALUE, Integer.MAX_VALUE}) {
            Check.refuses(Made::some, "suited(" + number + ")", Check.INDEX, x -> x.suited(number));
        }
        Check.refuses(Made::full, "suited(24)", Check.INDEX, x -> x.suited(24));
        CourierRelay x = Made.parcels(24);
        x.addCourier(Made.ALL, 0);
        Check.is("suited(23)", x.suited(23), 1);
    }

    private static void changesNothing() {
        int[] due = {0, 0, 0, 1};
        for (int p = 0; p < 4; p++) {
            int parcel = p;
            Check.answersOnly(Made::some, "suited(" + p + ")", due[p], x -> x.suited(parcel));
        }
    }
}
