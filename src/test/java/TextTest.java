/** Promises 20 to 22: the parcel text. */
public final class TextTest {
    private static final Class<IllegalArgumentException> ARGUMENT = IllegalArgumentException.class;
    private static final Class<IllegalStateException> STATE = IllegalStateException.class;

    public static void main(String[] args) {
        append();
        clearText();
        parse();
        shorterText();
        syntaxErrors();
        ranges();
        room();
        Check.end();
    }

    private static void append() {
        CourierRelay x = new CourierRelay();
        Check.fails("append(-1)", ARGUMENT, () -> x.append(-1));
        Check.fails("append(128)", ARGUMENT, () -> x.append(128));
        for (int k = 1; k <= 150; k++) {
            Check.is("append no. " + k, x.append(k % 2 == 0 ? 127 : 0), k);
        }
        Check.fails("a byte too many", STATE, () -> x.append(0));
        Check.fails("a byte too many, wrong", ARGUMENT, () -> x.append(128));
        Check.fails("undo(), append saved nothing", STATE, () -> x.undo());
        Check.is("clearText()", x.clearText(), 150);
        Check.is("append(59) then", x.append(59), 1);
    }

    private static void clearText() {
        CourierRelay x = new CourierRelay();
        Check.is("clearText() of nothing", x.clearText(), 0);
        x.append('1');
        x.append('2');
        Check.is("clearText()", x.clearText(), 2);
        Check.is("clearText() again", x.clearText(), 0);
        Check.is("parse() of the empty text", x.parse(), 0);
        x.append('7');
        x.undo();
        Check.is("clearText() after undo, which leaves the text", x.clearText(), 1);
        Check.fails("undo(), clearText saved nothing", STATE, () -> x.undo());
    }

    private static void parse() {
        CourierRelay x = new CourierRelay();
        Check.write(x, "0,15,999,1000;15,0,1,0;");
        Check.is("parse()", x.parse(), 2);
        Check.is("parcel 0", Check.parcel(x, 0), "0 15 999 1000 0 0 -1 0 0");
        Check.is("parcel 1", Check.parcel(x, 1), "15 0 1 0 0 15 -1 0 0");
        Check.is("parse() again: the text stayed", x.parse(), 4);
        Check.is("undo()", x.undo(), 1);
        Check.is("parcels after undo", x.value(2), 2);
        Check.is("parse() after undo", x.parse(), 4);
        Check.write(x, "00,01,001,0000;");
        Check.is("parse() with zeros in front", x.parse(), 5);
        Check.is("parcel 4", Check.parcel(x, 4), "0 1 1 0 0 0 -1 0 0");
        x.clearText();
        Check.is("parse() without items", x.parse(), 5);
        Check.is("undo(), a state was saved", x.undo(), 3);
        Check.is("parcels then", x.value(2), 5);
        CourierRelay y = new CourierRelay();
        Check.write(y, "1,2,3,4;x");
        Check.is("an error behind an item", y.parse(), -10 - 8);
        Check.is("parcels, nothing changed", y.value(2), 0);
        Check.fails("undo(), nothing was saved", STATE, () -> y.undo());
        Check.write(y, "4,5,6,7;1,");
        Check.is("an end behind an item", y.parse(), -10 - 10);
        Check.write(y, "8,9,10,11;");
        Check.is("parse() after errors", y.parse(), 1);
        Check.is("its parcel", Check.parcel(y, 0), "8 9 10 11 0 8 -1 0 0");
    }

    /** What stood in the text before it was emptied does not stand behind its end. */
    private static void shorterText() {
        CourierRelay x = new CourierRelay();
        Check.write(x, "1,2,3,4;");
        Check.write(x, "1,2,3,4");
        Check.is("parse(), a semicolon was there", x.parse(), -10 - 7);
        Check.write(x, "1,2,3,456;");
        Check.write(x, "1,2,3,4");
        Check.is("parse(), digits were there", x.parse(), -10 - 7);
        Check.write(x, "1,2,3,4;5,6,7,8;");
        Check.write(x, "5,6,7,8;");
        Check.is("parse(), another item was there", x.parse(), 1);
    }

    private static void error(String text, int position) {
        CourierRelay x = new CourierRelay();
        Check.write(x, text);
        Check.is("parse() of \"" + text + "\"", x.parse(), -10 - position);
        Check.is("length of \"" + text + "\"", x.clearText(), text.length());
    }

    private static void syntaxErrors() {
        error(";", 0);
        error(",", 0);
        error(" 1,2,3,4;", 0);
        error("-1,2,3,4;", 0);
        error("/", 0);
        error(":", 0);
        error("1", 1);
        error("1;", 1);
        error("1,", 2);
        error("1,,", 2);
        error("1,2", 3);
        error("1,2;", 3);
        error("1,2,", 4);
        error("1,2,3", 5);
        error("1,2,3;", 5);
        error("1,2,3,", 6);
        error("1,2,3,;", 6);
        error("1,2,3,4", 7);
        error("1,2,3,4,", 7);
        error("1,2,3,4 ;", 7);
        error("1,2,3,4;;", 8);
        error("1,2,3,4;5", 9);
        error("001,2,3,4;", 2);
        error("1,002,3,4;", 4);
        error("1,2,0003,4;", 7);
        error("1,2,3,00004;", 10);
        error("1 ,2,3,4;", 1);
        error("1, 2,3,4;", 2);
    }

    private static void ranges() {
        error("16,2,3,4;", 0);
        error("16", 0);
        error("16;", 0);
        error("16x", 0);
        error("161", 2);
        error("99,99,", 0);
        error("1,16,3,4;", 2);
        error("1,16", 2);
        error("1,1,3,4;", 2);
        error("1,01", 2);
        error("1,1;", 2);
        error("1,11,3,4", 8);
        error("1,2,0,4;", 4);
        error("1,2,000", 4);
        error("1,2,0000", 7);
        error("1,2,00x", 4);
        error("1,2,3,1001;", 6);
        error("1,2,3,1001", 6);
        error("1,2,3,9999,", 6);
        error("1,2,3,10010", 10);
        error("1,2,3,4;2,2;", 10);
    }

    private static void room() {
        CourierRelay x = new CourierRelay();
        for (int p = 0; p < 22; p++) {
            x.give(0, 1, 2, 3);
        }
        Check.write(x, "1,2,3,4;1,2,3,4;1,2,3,4;");
        Check.is("an item too many", x.parse(), -10 - 16);
        Check.is("parcels, nothing changed", x.value(2), 22);
        Check.write(x, "1,2,3,4;1,2,3,4;x");
        Check.is("no item at all behind the last one", x.parse(), -10 - 16);
        Check.write(x, "1,2,3,4;1,2,3,5;");
        Check.is("the last two", x.parse(), 24);
        Check.is("parcel 23", Check.parcel(x, 23), "1 2 3 5 0 1 -1 0 0");
        Check.is("all full", x.parse(), -10);
        x.clearText();
        Check.is("all full, no items", x.parse(), 24);
        CourierRelay y = new CourierRelay();
        StringBuilder most = new StringBuilder();
        for (int k = 0; k < 18; k++) {
            most.append("1,2,3,4;");
        }
        Check.write(y, most.toString());
        Check.is("18 items", y.parse(), 18);
        Check.is("6 more and one too many", y.parse(), -10 - 48);
    }
}
