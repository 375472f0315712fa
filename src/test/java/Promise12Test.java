/** Promise 12, distance: a test for each sentence about a boundary. */
public final class Promise12Test {
    public static void main(String[] args) {
        Check.test("Promise 12: from and to are 0 to 15", Promise12Test::inside);
        Check.test("Promise 12: IndexOutOfBoundsException if there is no such zone", Promise12Test::outside);
        Check.test("Promise 12: 0 from a zone to itself", Promise12Test::itself);
        Check.test("Promise 12: no way leads round the edge", Promise12Test::edges);
        Check.test("Promise 12: the number of moves of a courier", Promise12Test::moves);
        Check.end();
    }

    private static void inside() {
        CourierRelay x = new CourierRelay();
        Check.is("distance(0, 15)", x.distance(0, 15), 6);
        Check.is("distance(15, 0)", x.distance(15, 0), 6);
        Check.is("distance(3, 12)", x.distance(3, 12), 6);
        Check.is("distance(12, 3)", x.distance(12, 3), 6);
        Check.is("distance(0, 3)", x.distance(0, 3), 3);
        Check.is("distance(0, 12)", x.distance(0, 12), 3);
        Check.is("distance(0, 1)", x.distance(0, 1), 1);
        Check.is("distance(0, 4)", x.distance(0, 4), 1);
        Check.is("distance(5, 10)", x.distance(5, 10), 2);
        Check.answersOnly(Made::some, "distance(14, 1)", 4, y -> y.distance(14, 1));
    }

    private static void outside() {
        for (int zone : new int[] {-1, 16, Integer.MIN_VALUE, Integer.MAX_VALUE}) {
            Check.refuses(Made::empty, "distance(" + zone + ", 0)", Check.INDEX, x -> x.distance(zone, 0));
            Check.refuses(Made::empty, "distance(15, " + zone + ")", Check.INDEX, x -> x.distance(15, zone));
            Check.refuses(Made::some, "distance(" + zone + ", " + zone + ")", Check.INDEX,
                    x -> x.distance(zone, zone));
        }
    }

    private static void itself() {
        CourierRelay x = new CourierRelay();
        for (int zone = 0; zone < 16; zone++) {
            Check.is("distance(" + zone + ", " + zone + ")", x.distance(zone, zone), 0);
        }
    }

    private static void edges() {
        CourierRelay x = new CourierRelay();
        for (int row = 0; row < 3; row++) {
            int right = 4 * row + 3;
            Check.is("distance from the right edge to the next row", x.distance(right, right + 1), 4);
            Check.is("distance from the left edge to the row before", x.distance(right + 1, right), 4);
        }
        Check.is("distance(0, 15) is not the one to -1", x.distance(0, 15), 6);
    }

    private static void moves() {
        for (int from = 0; from < 16; from++) {
            CourierRelay x = new CourierRelay();
            int beside = from % 4 == 0 ? from + 1 : from - 1;
            x.addCourier(Made.ALL, 15 - from);
            x.give(from, beside, 99, 0);
            x.run(50);
            Check.is("moves to zone " + from + " and the one leg", x.value(10), x.distance(15 - from, from) + 1);
        }
    }
}
