/** Compares answers with those that are due, and counts the wrong ones. */
final class Check {
    static final Class<IllegalArgumentException> ARGUMENT = IllegalArgumentException.class;
    static final Class<IllegalStateException> STATE = IllegalStateException.class;
    static final Class<IndexOutOfBoundsException> INDEX = IndexOutOfBoundsException.class;

    /** A call of the face. */
    interface Call {
        Object answer();
    }

    /** A call of the face on an object that is made for it. */
    interface CallOn {
        Object answer(CourierRelay relay);
    }

    /** Makes an object with a past, the same one each time. */
    interface Past {
        CourierRelay make();
    }

    private static int wrong = 0;
    private static int compared = 0;
    private static String test = "";

    private Check() {
    }

    /** A test of its own: its name stands in front of each wrong answer, and its end does not end the others. */
    static void test(String name, Runnable body) {
        test = name + ": ";
        try {
            body.run();
        } catch (RuntimeException e) {
            wrong++;
            System.out.println(test + "ended by " + e);
        }
        test = "";
    }

    static void is(String call, Object got, Object want) {
        compared++;
        if (!got.equals(want)) {
            wrong++;
            System.out.println(test + call + " answered " + got + ", due is " + want);
        }
    }

    /** The exception must be the very class: a subclass would come from the machine. */
    static void fails(String call, Class<? extends RuntimeException> want, Call body) {
        is(call, outcome(body), "throws." + want.getSimpleName());
    }

    static Object outcome(Call body) {
        try {
            return body.answer();
        } catch (RuntimeException e) {
            return "throws." + e.getClass().getSimpleName();
        }
    }

    /** The call is refused with this exception, and changes nothing, not even the saved states or the text. */
    static void refuses(Past past, String call, Class<? extends RuntimeException> want, CallOn body) {
        CourierRelay relay = past.make();
        fails(call, want, () -> body.answer(relay));
        is("all that stands after " + call, inside(relay), inside(past.make()));
    }

    /** The call answers so, and changes nothing, not even the saved states or the text. */
    static void answersOnly(Past past, String call, Object want, CallOn body) {
        CourierRelay relay = past.make();
        is(call, outcome(() -> body.answer(relay)), want);
        is("all that stands after " + call, inside(relay), inside(past.make()));
    }

    /** The call saves one state, that from before it. For a past with fewer than 4 saved states. */
    static void undoable(Past past, String call, CallOn body) {
        CourierRelay relay = past.make();
        body.answer(relay);
        is("states saved after " + call, undo(relay), states(past.make()));
        is("all that stands after " + call + " and undo()", inside(relay), inside(past.make()));
    }

    private static Object undo(CourierRelay relay) {
        return outcome(relay::undo);
    }

    /** How many states are saved; they are gone then. */
    static int states(CourierRelay relay) {
        int states = 0;
        while (states < 9 && undo(relay) instanceof Integer) {
            states++;
        }
        return states;
    }

    /** The state, each saved state, and the text as far as parse() shows it. All of it is gone then. */
    static String inside(CourierRelay relay) {
        StringBuilder all = new StringBuilder();
        Object left = "";
        for (int k = 0; k < 9 && !(left instanceof String && k > 0); k++) {
            all.append(relay.digest()).append(' ').append(relay.doneIn()).append(' ');
            left = undo(relay);
            all.append(left).append(' ');
        }
        all.append(relay.parse()).append(' ').append(relay.digest()).append(' ').append(relay.clearText());
        return all.toString();
    }

    /** The values of value(), separated by spaces. */
    static String values(CourierRelay relay) {
        StringBuilder all = new StringBuilder();
        for (int what = 0; what <= 10; what++) {
            all.append(what == 0 ? "" : " ").append(relay.value(what));
        }
        return all.toString();
    }

    static String courier(CourierRelay relay, int number) {
        StringBuilder all = new StringBuilder();
        for (int what = 0; what <= 5; what++) {
            all.append(what == 0 ? "" : " ").append(relay.courier(number, what));
        }
        return all.toString();
    }

    static String parcel(CourierRelay relay, int number) {
        StringBuilder all = new StringBuilder();
        for (int what = 0; what <= 8; what++) {
            all.append(what == 0 ? "" : " ").append(relay.parcel(number, what));
        }
        return all.toString();
    }

    /** The legs of a parcel by each courier, or the shares. */
    static String legs(CourierRelay relay, int number, boolean share) {
        StringBuilder all = new StringBuilder();
        for (int c = 0; c < relay.value(1); c++) {
            all.append(c == 0 ? "" : " ").append(relay.legs(number, c, share));
        }
        return all.toString();
    }

    /** All that can be seen of the exchange, without what is saved. */
    static String all(CourierRelay relay) {
        StringBuilder text = new StringBuilder(values(relay));
        for (int c = 0; c < relay.value(1); c++) {
            text.append('|').append(courier(relay, c));
        }
        for (int p = 0; p < relay.value(2); p++) {
            text.append('|').append(parcel(relay, p));
            text.append('/').append(legs(relay, p, false)).append('/').append(legs(relay, p, true));
        }
        return text.toString();
    }

    static int area(int... zones) {
        int set = 0;
        for (int zone : zones) {
            set |= 1 << zone;
        }
        return set;
    }

    static void write(CourierRelay relay, String text) {
        relay.clearText();
        for (int i = 0; i < text.length(); i++) {
            relay.append(text.charAt(i));
        }
    }

    static void end() {
        System.out.println(compared + " answers, " + wrong + " wrong");
        if (wrong > 0) {
            System.exit(1);
        }
    }
}
