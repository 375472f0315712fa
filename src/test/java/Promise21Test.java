/** Promise 21, clearText: a test for each sentence about a boundary. */
public final class Promise21Test {
    public static void main(String[] args) {
        Check.test("Promise 21: returns the length that it had, 0 to 150", Promise21Test::lengths);
        Check.test("Promise 21: the text is empty then", Promise21Test::empty);
        Check.test("Promise 21: nothing of the old text comes back", Promise21Test::nothingComesBack);
        Check.test("Promise 21: not undoable, and undo() does not bring the text back", Promise21Test::notUndoable);
        Check.test("Promise 21: the parcels that were parsed stay", Promise21Test::parcelsStay);
        Check.end();
    }

    private static void lengths() {
        for (int length : new int[] {0, 1, 2, 149, 150}) {
            CourierRelay x = Promise20Test.text(length);
            Check.is("clearText() of " + length, x.clearText(), length);
            Check.is("clearText() again", x.clearText(), 0);
        }
        Check.is("after a refused byte", refused().clearText(), 150);
    }

    private static CourierRelay refused() {
        CourierRelay x = Promise20Test.text(150);
        Check.fails("append('0')", Check.STATE, () -> x.append('0'));
        return x;
    }

    private static void empty() {
        CourierRelay x = new CourierRelay();
        Check.write(x, "x");
        Check.is("parse() before", x.parse(), -10);
        x.clearText();
        Check.is("parse() then", x.parse(), 0);
        Check.is("append('1') then", x.append('1'), 1);
    }

    private static void nothingComesBack() {
        CourierRelay x = new CourierRelay();
        Check.write(x, "1,2,3,4;5,6,7,8;");
        x.clearText();
        x.append('1');
        Check.is("parse() of the first byte alone", x.parse(), -11);
        Check.write(x, "2,3,4,5;");
        Check.is("parse() of one item where two were", x.parse(), 1);
        Check.write(x, "2,3,4,");
        Check.is("parse() without what was behind", x.parse(), -16);
    }

    private static void notUndoable() {
        CourierRelay x = new CourierRelay();
        x.setGrace(5);
        x.append('1');
        x.clearText();
        Check.is("undo() of what was before", x.undo(), 0);
        Check.is("the grace", x.value(3), 10);
        Check.is("clearText()", x.clearText(), 0);
        x.clearText();
        Check.fails("undo()", Check.STATE, () -> x.undo());
    }

    private static void parcelsStay() {
        CourierRelay x = Made.some();
        String before = Check.all(x);
        Check.is("clearText()", x.clearText(), 18);
        Check.is("all", Check.all(x), before);
    }
}
