/** Compares answers with those that are due, and counts the wrong ones. */
final class Check {
    /** A call of the face. */
    interface Call {
        Object answer();
    }

    private static int wrong = 0;
    private static int compared = 0;

    private Check() {
    }

    static void is(String call, Object got, Object want) {
        compared++;
        if (!got.equals(want)) {
            wrong++;
            System.out.println(call + " answered " + got + ", due is " + want);
        }
    }

    /** The exception must be the very class: a subclass would come from the machine. */
    static void fails(String call, Class<? extends RuntimeException> want, Call body) {
        is(call, outcome(body), "throws." + want.getSimpleName());
    }

    static Object outcome(Call body) {
        try {
            return body.answer();
        } catch (RuntimeException e) {
            return "throws." + e.getClass().getSimpleName();
        }
    }

    /** The values of value(), separated by spaces. */
    static String values(CourierRelay relay) {
        StringBuilder all = new StringBuilder();
        for (int what = 0; what <= 10; what++) {
            all.append(what == 0 ? "" : " ").append(relay.value(what));
        }
        return all.toString();
    }

    static String courier(CourierRelay relay, int number) {
        StringBuilder all = new StringBuilder();
        for (int what = 0; what <= 5; what++) {
            all.append(what == 0 ? "" : " ").append(relay.courier(number, what));
        }
        return all.toString();
    }

    static String parcel(CourierRelay relay, int number) {
        StringBuilder all = new StringBuilder();
        for (int what = 0; what <= 8; what++) {
            all.append(what == 0 ? "" : " ").append(relay.parcel(number, what));
        }
        return all.toString();
    }

    /** The legs of a parcel by each courier, or the shares. */
    static String legs(CourierRelay relay, int number, boolean share) {
        StringBuilder all = new StringBuilder();
        for (int c = 0; c < relay.value(1); c++) {
            all.append(c == 0 ? "" : " ").append(relay.legs(number, c, share));
        }
        return all.toString();
    }

    static int area(int... zones) {
        int set = 0;
        for (int zone : zones) {
            set |= 1 << zone;
        }
        return set;
    }

    static void write(CourierRelay relay, String text) {
        relay.clearText();
        for (int i = 0; i < text.length(); i++) {
            relay.append(text.charAt(i));
        }
    }

    static void end() {
        System.out.println(compared + " answers, " + wrong + " wrong");
        if (wrong > 0) {
            System.exit(1);
        }
    }
}
