/** Promise 20, append: a test for each sentence about a boundary. */
public final class Promise20Test {
    public static void main(String[] args) {
        Check.test("Promise 20: value is 0 to 127", Promise20Test::inside);
        Check.test("Promise 20: IllegalArgumentException if value is out of range", Promise20Test::outside);
        Check.test("Promise 20: returns the new length, 1 to 150", Promise20Test::lengths);
        Check.test("Promise 20: IllegalStateException if the text has 150 bytes", Promise20Test::full);
        Check.test("Promise 20: the wrong value comes before the full text", Promise20Test::argumentFirst);
        Check.test("Promise 20: the first and the last byte of a full text are kept", Promise20Test::kept);
        Check.test("Promise 20: not undoable", Promise20Test::notUndoable);
        Check.end();
    }

    static CourierRelay text(int length) {
        CourierRelay x = new CourierRelay();
        for (int k = 0; k < length; k++) {
            x.append('0');
        }
        return x;
    }

    private static void inside() {
        CourierRelay x = new CourierRelay();
        for (int value = 0; value <= 127; value++) {
            Check.is("append(" + value + ")", x.append(value), value + 1);
        }
    }

    private static void outside() {
        for (int value : new int[] {-1, 128, 255, 256, Integer.MIN_VALUE, Integer.MAX_VALUE}) {
            String call = "append(" + value + ")";
            Check.refuses(Made::empty, call, Check.ARGUMENT, x -> x.append(value));
            Check.refuses(Made::some, call, Check.ARGUMENT, x -> x.append(value));
            Check.refuses(() -> text(149), call, Check.ARGUMENT, x -> x.append(value));
        }
    }

    private static void lengths() {
        CourierRelay x = new CourierRelay();
        for (int length = 1; length <= 150; length++) {
            Check.is("append no. " + length, x.append('0'), length);
        }
        Check.is("clearText()", x.clearText(), 150);
        Check.is("append to the emptied text", x.append('0'), 1);
    }

    private static void full() {
        Check.is("the 150th byte", text(149).append(';'), 150);
        Check.refuses(() -> text(150), "the 151st byte", Check.STATE, x -> x.append('0'));
        Check.refuses(Made::full, "the 151st byte behind items", Check.STATE, x -> x.append('0'));
        Check.refuses(Made::full, "the 151st byte, 0", Check.STATE, x -> x.append(0));
        Check.refuses(Made::full, "the 151st byte, 127", Check.STATE, x -> x.append(127));
        CourierRelay x = text(150);
        x.clearText();
        Check.is("the emptied text takes bytes again", x.append('0'), 1);
    }

    private static void argumentFirst() {
        for (int value : new int[] {-1, 128, Integer.MIN_VALUE, Integer.MAX_VALUE}) {
            Check.refuses(() -> text(150), "append(" + value + ")", Check.ARGUMENT, x -> x.append(value));
        }
    }

    private static void kept() {
        CourierRelay x = new CourierRelay();
        String item = "00,01,001,0000;";
        for (int k = 0; k < 10; k++) {
            for (int i = 0; i < item.length(); i++) {
                x.append(item.charAt(i));
            }
        }
        Check.is("parse() of 150 bytes", x.parse(), 10);
        Check.is("the first parcel", Check.parcel(x, 0), "0 1 1 0 0 0 -1 0 0");
        Check.is("the last parcel", Check.parcel(x, 9), "0 1 1 0 0 0 -1 0 0");
    }

    private static void notUndoable() {
        CourierRelay x = new CourierRelay();
        x.append('1');
        Check.fails("undo()", Check.STATE, () -> x.undo());
        x.setGrace(5);
        x.append('2');
        Check.is("undo() of what was before", x.undo(), 0);
        Check.is("the grace", x.value(3), 10);
        Check.is("the text stays", x.clearText(), 2);
    }
}
