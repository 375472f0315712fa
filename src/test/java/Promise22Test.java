/** Promise 22, parse: a test for each sentence of "Parcel text" and about a boundary. */
public final class Promise22Test {
    public static void main(String[] args) {
        Check.test("Promise 22: there may be no items", Promise22Test::noItems);
        Check.test("Promise 22: one item, and as many as there is room for", Promise22Test::items);
        Check.test("Promise 22: a text of 150 bytes", Promise22Test::fullText);
        Check.test("Promise 22: each item is terminated by a semicolon", Promise22Test::semicolon);
        Check.test("Promise 22: commas between the numbers", Promise22Test::commas);
        Check.test("Promise 22: zones have one or two digits", Promise22Test::zoneDigits);
        Check.test("Promise 22: the cut-off has one to three digits", Promise22Test::cutOffDigits);
        Check.test("Promise 22: the tip has one to four digits", Promise22Test::tipDigits);
        Check.test("Promise 22: a number has a digit", Promise22Test::noDigits);
        Check.test("Promise 22: zeros in front", Promise22Test::zeros);
        Check.test("Promise 22: any digits, and no other bytes", Promise22Test::anyDigits);
        Check.test("Promise 22: there are no spaces", Promise22Test::noSpaces);
        Check.test("Promise 22: wrong at the first byte", Promise22Test::firstByte);
        Check.test("Promise 22: wrong at the last byte", Promise22Test::lastByte);
        Check.test("Promise 22: the text ends too early", Promise22Test::endsEarly);
        Check.test("Promise 22: an origin out of range", Promise22Test::originRange);
        Check.test("Promise 22: a destination out of range", Promise22Test::destinationRange);
        Check.test("Promise 22: a destination that is the origin", Promise22Test::sameZone);
        Check.test("Promise 22: a cut-off out of range", Promise22Test::cutOffRange);
        Check.test("Promise 22: a tip out of range", Promise22Test::tipRange);
        Check.test("Promise 22: the range is found by whichever byte follows, or the end", Promise22Test::foundBy);
        Check.test("Promise 22: a digit too many comes before the range", Promise22Test::digitFirst);
        Check.test("Promise 22: the first error counts", Promise22Test::firstError);
        Check.test("Promise 22: a 25th parcel, at the first digit of its item", Promise22Test::tooMany);
        Check.test("Promise 22: with 24 parcels", Promise22Test::allFull);
        Check.test("Promise 22: with a syntax error nothing changes", Promise22Test::errorChangesNothing);
        Check.test("Promise 22: the text stays as it is", Promise22Test::textStays);
        Check.test("Promise 22: undoable, even without items", Promise22Test::undoable);
        Check.test("Promise 22: what it gives is what give() gives", Promise22Test::asGive);
        Check.end();
    }

    private static CourierRelay written(CourierRelay x, String text) {
        Check.write(x, text);
        return x;
    }

    private static void answers(String text, int due) {
        Check.answersOnly(() -> written(new CourierRelay(), text), "parse() of \"" + text + "\"", due, x -> x.parse());
    }

    private static void error(String text, int position) {
        answers(text, -10 - position);
        String behind = "7,8,9,10;" + text;
        answers(behind, -10 - 9 - position);
    }

    /** The one parcel of the text. */
    private static void reads(String text, String parcel) {
        CourierRelay x = written(new CourierRelay(), text);
        Check.is("parse() of \"" + text + "\"", x.parse(), 1);
        Check.is("its parcel",
                x.parcel(0, 0) + " " + x.parcel(0, 1) + " " + x.parcel(0, 2) + " " + x.parcel(0, 3), parcel);
        Check.is("it waits in its origin", x.parcel(0, 4) + " " + x.parcel(0, 5), "0 " + x.parcel(0, 0));
    }

    private static void noItems() {
        Check.is("of the empty exchange", new CourierRelay().parse(), 0);
        Check.is("with 5 parcels", Made.parcels(5).parse(), 5);
        CourierRelay x = written(new CourierRelay(), "1,2,3,4;");
        x.clearText();
        Check.is("of an emptied text", x.parse(), 0);
    }

    private static String items(int count) {
        StringBuilder text = new StringBuilder();
        for (int k = 0; k < count; k++) {
            text.append("1,2,3,").append(k % 10).append(';');
        }
        return text.toString();
    }

    private static void items() {
        for (int count : new int[] {1, 2, 17, 18}) {
            Check.is("parse() of " + count, written(new CourierRelay(), items(count)).parse(), count);
        }
        CourierRelay x = written(Made.parcels(6), items(18));
        Check.is("parse() up to 24", x.parse(), 24);
        for (int p = 6; p < 24; p++) {
            Check.is("tip of parcel " + p, x.parcel(p, 3), (p - 6) % 10);
        }
        Check.is("parse() of one more for 23", written(Made.parcels(23), items(1)).parse(), 24);
    }

    private static void fullText() {
        String most = items(17) + "10,11,100,100;";
        Check.is("length", most.length(), 150);
        CourierRelay x = written(new CourierRelay(), most);
        Check.is("parse()", x.parse(), 18);
        Check.is("the last parcel", Check.parcel(x, 17), "10 11 100 100 0 10 -1 0 0");
        answers(items(17) + "10,11,100,100,", -10 - 149);
        answers(items(17) + "10,11,100,1000", -10 - 150);
        answers(items(18) + "10,11,", -10 - 150);
        answers(items(18) + "10,11;", -10 - 149);
        answers(items(18) + "10,10;", -10 - 147);
        answers(items(18) + "10,16,", -10 - 147);
        answers(items(18) + "10,115", -10 - 149);
        answers(items(18) + "1,2,30", -10 - 150);
        answers(items(18) + "1,2,00", -10 - 148);
        answers("x" + items(17) + "1,2,100,10000", -10);
    }

    private static void semicolon() {
        reads("1,2,3,4;", "1 2 3 4");
        error("1,2,3,4", 7);
        error("1,2,3,4,", 7);
        error("1,2,3,4:", 7);
        error("1,2,3,4;;", 8);
        error("1,2,3,4,5,6,7,8;", 7);
        error("1;", 1);
        error("1,2;", 3);
        error("1,2,3;", 5);
        error("1,2,3,4x", 7);
    }

    private static void commas() {
        error("1.2,3,4;", 1);
        error("1,2.3,4;", 3);
        error("1,2,3.4;", 5);
        error("1;2,3,4;", 1);
        error("1,2;3,4;", 3);
        error("1,2,3;4;", 5);
        error("1,,2,3,4;", 2);
        error("1,2,,3,4;", 4);
        error("1,2,3,,4;", 6);
        error(",1,2,3,4;", 0);
    }

    private static void zoneDigits() {
        reads("0,1,3,4;", "0 1 3 4");
        reads("00,15,3,4;", "0 15 3 4");
        reads("15,00,3,4;", "15 0 3 4");
        reads("9,10,3,4;", "9 10 3 4");
        error("001,2,3,4;", 2);
        error("000", 2);
        error("100,2,3,4;", 2);
        error("1,002,3,4;", 4);
        error("1,000", 4);
        error("1,200,3,4;", 4);
    }

    private static void cutOffDigits() {
        reads("1,2,1,4;", "1 2 1 4");
        reads("1,2,10,4;", "1 2 10 4");
        reads("1,2,999,4;", "1 2 999 4");
        reads("1,2,001,4;", "1 2 1 4");
        error("1,2,0001,4;", 7);
        error("1,2,1000,4;", 7);
        error("1,2,9999", 7);
    }

    private static void tipDigits() {
        reads("1,2,3,0;", "1 2 3 0");
        reads("1,2,3,10;", "1 2 3 10");
        reads("1,2,3,100;", "1 2 3 100");
        reads("1,2,3,1000;", "1 2 3 1000");
        reads("1,2,3,0000;", "1 2 3 0");
        error("1,2,3,00000;", 10);
        error("1,2,3,10000;", 10);
        error("1,2,3,00004", 10);
    }

    private static void noDigits() {
        error(";", 0);
        error(",", 0);
        error("1,,", 2);
        error("1,;", 2);
        error("1,2,,", 4);
        error("1,2,;", 4);
        error("1,2,3,;", 6);
        error("1,2,3,,", 6);
    }

    private static void zeros() {
        reads("01,02,003,0004;", "1 2 3 4");
        reads("09,08,007,0060;", "9 8 7 60");
        reads("00,01,010,0100;", "0 1 10 100");
    }

    private static void anyDigits() {
        reads("12,13,456,789;", "12 13 456 789");
        reads("0,9,876,543;", "0 9 876 543");
        reads("10,2,345,678;", "10 2 345 678");
        for (int value : new int[] {0, 9, 10, 32, 43, 45, 46, 47, 58, 65, 97, 127}) {
            String sign = String.valueOf((char) value);
            error(sign, 0);
            error("1" + sign + ",2,3,4;", 1);
            error("1,2,3,4" + sign, 7);
        }
    }

    private static void noSpaces() {
        error(" 1,2,3,4;", 0);
        error("1 ,2,3,4;", 1);
        error("1, 2,3,4;", 2);
        error("1,2 ,3,4;", 3);
        error("1,2, 3,4;", 4);
        error("1,2,3, 4;", 6);
        error("1,2,3,4 ;", 7);
        error("1,2,3,4; ", 8);
    }

    private static void firstByte() {
        for (String sign : new String[] {"x", " ", ",", ";", "-", "+", "/", ":"}) {
            error(sign + "1,2,3,4;", 0);
            error(sign, 0);
        }
    }

    private static void lastByte() {
        error("1,2,3,4;x", 8);
        error("1,2,3,4; ", 8);
        error("1,2,3,4;,", 8);
        error("1,2,3,4;0", 9);
        error("1,2,3,4-", 7);
        error("1,2,3,1000,", 10);
    }

    private static void endsEarly() {
        String whole = "10,11,123,1000;";
        for (int length = 1; length < whole.length(); length++) {
            error(whole.substring(0, length), length);
        }
        Check.is("the whole item", written(new CourierRelay(), whole).parse(), 1);
    }

    private static void originRange() {
        reads("15,2,3,4;", "15 2 3 4");
        error("16,2,3,4;", 0);
        error("99,2,3,4;", 0);
        error("16", 0);
        error("20,", 0);
    }

    private static void destinationRange() {
        reads("2,15,3,4;", "2 15 3 4");
        error("2,16,3,4;", 2);
        error("2,99,3,4;", 2);
        error("12,16", 3);
        error("12,20,", 3);
    }

    private static void sameZone() {
        for (int zone = 0; zone < 16; zone++) {
            String digits = String.valueOf(zone);
            error(digits + "," + digits + ",3,4;", digits.length() + 1);
        }
        error("1,01,3,4;", 2);
        error("01,1,3,4;", 3);
        error("00,0,3,4;", 3);
        error("1,1", 2);
        answers("2,3,3,4;2,2,3,4;", -10 - 10);
        reads("1,11,3,4;", "1 11 3 4");
        reads("1,10,3,4;", "1 10 3 4");
        Check.is("the origin of another item", written(new CourierRelay(), "1,2,3,4;2,1,3,4;").parse(), 2);
    }

    private static void cutOffRange() {
        reads("1,2,999,4;", "1 2 999 4");
        error("1,2,0,4;", 4);
        error("1,2,00,4;", 4);
        error("1,2,000,4;", 4);
        error("1,2,0", 4);
        error("1,2,000", 4);
        error("10,2,0,", 5);
    }

    private static void tipRange() {
        reads("1,2,3,1000;", "1 2 3 1000");
        error("1,2,3,1001;", 6);
        error("1,2,3,2000;", 6);
        error("1,2,3,9999;", 6);
        error("1,2,3,1001", 6);
        error("11,12,13,1001", 9);
    }

    private static void foundBy() {
        for (String sign : new String[] {"", ",", ";", "x", " ", "/", ":", "\0", "\177"}) {
            error("16" + sign, 0);
            error("2,16" + sign, 2);
            error("2,2" + sign, 2);
            error("1,2,0" + sign, 4);
            error("1,2,3,1001" + sign, 6);
        }
    }

    private static void digitFirst() {
        error("160", 2);
        error("161,2,3,4;", 2);
        error("2,160,3,4;", 4);
        error("2,020", 4);
        error("1,2,0000,4;", 7);
        error("1,2,3,10010;", 10);
        error("1,2,3,99999", 10);
        error("2,22,3,4;", 2);
    }

    private static void firstError() {
        error("16,16,0,1001", 0);
        error("1,16,0,1001", 2);
        error("1,2,0,1001", 4);
        error("1,2,3,1001x", 6);
        error("1,2,3,4;16,x", 8);
        error("1,2,3x4;16,2,3,4;", 5);
    }

    private static void tooMany() {
        Check.answersOnly(() -> written(Made.parcels(23), items(2)), "two for 23", -10 - 8, x -> x.parse());
        Check.answersOnly(() -> written(Made.parcels(7), items(18)), "18 for 7", -10 - 17 * 8, x -> x.parse());
        Check.answersOnly(() -> written(Made.parcels(23), "1,2,3,4;5"), "a digit alone", -10 - 8, x -> x.parse());
        Check.answersOnly(() -> written(Made.parcels(23), "1,2,3,4;99,"), "out of range", -10 - 8, x -> x.parse());
        Check.answersOnly(() -> written(Made.parcels(23), "1,2,3,4;x"), "no digit", -10 - 8, x -> x.parse());
        Check.answersOnly(() -> written(Made.parcels(23), "1,2,3,x5,6,7,8;"), "an error before", -10 - 6,
                x -> x.parse());
        Check.is("two for 22", written(Made.parcels(22), items(2)).parse(), 24);
    }

    private static void allFull() {
        Check.is("no items", Made.parcels(24).parse(), 24);
        Check.answersOnly(() -> written(Made.parcels(24), "1,2,3,4;"), "an item", -10, x -> x.parse());
        Check.answersOnly(() -> written(Made.parcels(24), "0"), "a digit", -10, x -> x.parse());
        Check.answersOnly(() -> written(Made.parcels(24), "x"), "no digit", -10, x -> x.parse());
        CourierRelay x = Made.parcels(24);
        for (int k = 0; k < 3; k++) {
            x.run(200);
        }
        x.setGrace(0);
        x.run(200);
        x.run(200);
        Check.write(x, "1,2,3,4;");
        Check.is("all failed, they count", x.value(7) + " " + x.parse(), "24 -10");
        x.clearText();
        Check.is("all failed, no items", x.parse(), 24);
    }

    private static void errorChangesNothing() {
        Check.answersOnly(() -> written(Made.full(), "1,2,3,4;5,"), "with 24 parcels", -10, x -> x.parse());
        Check.answersOnly(() -> written(Made.some(), "1,2,3,4;5,"), "with room", -20, x -> x.parse());
        CourierRelay x = written(new CourierRelay(), "1,2,3,4;x");
        Check.is("parse()", x.parse(), -18);
        Check.is("parcels", x.value(2), 0);
        Check.fails("undo()", Check.STATE, () -> x.undo());
        Check.write(x, "5,6,7,8;");
        Check.is("parse() of another text", x.parse(), 1);
        Check.is("its parcel", Check.parcel(x, 0), "5 6 7 8 0 5 -1 0 0");
    }

    private static void textStays() {
        CourierRelay x = written(new CourierRelay(), "1,2,3,4;5,6,7,8;");
        Check.is("parse()", x.parse(), 2);
        Check.is("parse() again", x.parse(), 4);
        Check.is("parcel 3", Check.parcel(x, 3), "5 6 7 8 0 5 -1 0 0");
        Check.is("clearText()", x.clearText(), 16);
        Check.write(x, "1,2,x");
        Check.is("parse() of an error", x.parse(), -14);
        Check.is("parse() of it again", x.parse(), -14);
        Check.is("clearText() after an error", x.clearText(), 5);
    }

    private static void undoable() {
        Check.undoable(Made::some, "parse()", x -> x.parse());
        Check.undoable(Made::empty, "parse() without items", x -> x.parse());
        Check.undoable(() -> written(Made.some(), ""), "parse() without items, some being there", x -> x.parse());
        CourierRelay x = written(new CourierRelay(), items(18));
        x.parse();
        Check.is("undo() of 18 at once", x.undo(), 0);
        Check.is("parcels", x.value(2), 0);
        Check.is("parse() again", x.parse(), 18);
    }

    private static void asGive() {
        CourierRelay x = Made.some();
        CourierRelay y = Made.some();
        x.parse();
        y.give(5, 6, 70, 8);
        y.give(6, 5, 80, 9);
        Check.is("all", Check.all(x), Check.all(y));
        x.setArea(0, Made.ALL);
        y.setArea(0, Made.ALL);
        x.run(60);
        y.run(60);
        Check.is("all, 60 ticks later", Check.all(x), Check.all(y));
    }
}
