/** An exchange of bicycle couriers who hand parcels over at the ends of their areas. */
public final class CourierRelay {
    /** There is no such thing. */
    public static final int NONE = -1;

    private static final int SIDE = 4;
    private static final int ZONES = 16;
    private static final int ALL_ZONES = 65535;
    private static final int MOST_COURIERS = 6;
    private static final int MOST_PARCELS = 24;
    private static final int MOST_CUT_OFF = 999;
    private static final int MOST_TIP = 1000;
    private static final int MOST_GRACE = 100;
    private static final int FIRST_GRACE = 10;
    private static final int MOST_TICKS = 200;
    private static final int LAST_TIME = 2000;
    private static final int LONGEST_OUTLOOK = 1200;
    private static final int MOST_SAVED = 4;
    private static final int LONGEST_TEXT = 150;
    private static final int MOST_BYTE = 127;

    private static final int LAST_VALUE = 10;
    private static final int LAST_COURIER_VALUE = 5;
    private static final int LAST_PARCEL_VALUE = 8;
    private static final int FIRST_STATE_VALUE = 4;

    private static final int FREE = 0;
    private static final int ON_THE_WAY = 1;
    private static final int CARRYING = 2;

    private static final int WAITING = 0;
    private static final int CARRIED = 1;
    private static final int DELIVERED = 2;
    private static final int FAILED = 3;

    private static final int ORIGIN = 0;
    private static final int DESTINATION = 1;
    private static final int CUT_OFF = 2;
    private static final int TIP = 3;
    private static final int FIELDS = 4;

    private static final int ERROR_BASE = -10;
    private static final long DIGEST_START = 3313L;

    private final Exchange now = new Exchange();
    /** What-if questions are played here, so that no call has to make an exchange. */
    private final Exchange trial = new Exchange();
    private final History history = new History();
    private final ParcelText text = new ParcelText();

    public CourierRelay() {
    }

    public int addCourier(int area, int zone) throws IllegalArgumentException, IllegalStateException {
        if (!isArea(area) || !isZone(zone)) {
            throw new IllegalArgumentException();
        }
        if (now.courierCount >= MOST_COURIERS) {
            throw new IllegalStateException();
        }
        history.save(now);
        return now.join(area, zone);
    }

    public int setArea(int courier, int area) throws IndexOutOfBoundsException, IllegalArgumentException {
        Courier who = now.courierAt(courier);
        if (who == null) {
            throw new IndexOutOfBoundsException();
        }
        if (!isArea(area)) {
            throw new IllegalArgumentException();
        }
        history.save(now);
        int previous = who.area;
        who.area = area;
        return previous;
    }

    public int give(int origin, int destination, int cutOff, int tip)
            throws IllegalArgumentException, IllegalStateException {
        if (!isZone(origin) || !isZone(destination) || origin == destination
                || !isCutOff(cutOff) || !isTip(tip)) {
            throw new IllegalArgumentException();
        }
        if (now.parcelCount >= MOST_PARCELS) {
            throw new IllegalStateException();
        }
        history.save(now);
        return now.accept(origin, destination, cutOff, tip);
    }

    public int setGrace(int grace) throws IllegalArgumentException {
        if (grace < 0 || grace > MOST_GRACE) {
            throw new IllegalArgumentException();
        }
        history.save(now);
        int previous = now.grace;
        now.grace = grace;
        return previous;
    }

    public int drop(int courier) throws IndexOutOfBoundsException {
        Courier who = now.courierAt(courier);
        if (who == null) {
            throw new IndexOutOfBoundsException();
        }
        history.save(now);
        int dropped = who.parcel;
        now.release(who);
        return dropped;
    }

    public int run(int ticks) throws IllegalArgumentException, IllegalStateException {
        if (!isTicks(ticks)) {
            throw new IllegalArgumentException();
        }
        if (now.time + ticks > LAST_TIME) {
            throw new IllegalStateException();
        }
        history.save(now);
        int before = now.parcelsIn(DELIVERED);
        now.pass(ticks);
        return now.parcelsIn(DELIVERED) - before;
    }

    public int value(int what) throws IllegalArgumentException {
        if (what < 0 || what > LAST_VALUE) {
            throw new IllegalArgumentException();
        }
        return now.figure(what);
    }

    public int courier(int courier, int what) throws IndexOutOfBoundsException, IllegalArgumentException {
        Courier who = now.courierAt(courier);
        if (who == null) {
            throw new IndexOutOfBoundsException();
        }
        if (what < 0 || what > LAST_COURIER_VALUE) {
            throw new IllegalArgumentException();
        }
        return now.courierFigure(who, courier, what);
    }

    public int parcel(int parcel, int what) throws IndexOutOfBoundsException, IllegalArgumentException {
        Parcel one = now.parcelAt(parcel);
        if (one == null) {
            throw new IndexOutOfBoundsException();
        }
        if (what < 0 || what > LAST_PARCEL_VALUE) {
            throw new IllegalArgumentException();
        }
        return one.figure(what);
    }

    public int legs(int parcel, int courier, boolean share) throws IndexOutOfBoundsException {
        Parcel one = now.parcelAt(parcel);
        if (one == null || now.courierAt(courier) == null) {
            throw new IndexOutOfBoundsException();
        }
        return share ? one.shareOf(courier) : one.legsOf(courier);
    }

    public int distance(int from, int to) throws IndexOutOfBoundsException {
        if (!isZone(from) || !isZone(to)) {
            throw new IndexOutOfBoundsException();
        }
        return Math.abs(from / SIDE - to / SIDE) + Math.abs(from % SIDE - to % SIDE);
    }

    public int suited(int parcel) throws IndexOutOfBoundsException {
        Parcel one = now.parcelAt(parcel);
        if (one == null) {
            throw new IndexOutOfBoundsException();
        }
        return one.isOpen() ? now.carriersOf(one.zone, nextZone(one.zone, one.destination)) : 0;
    }

    public int leastRelay(int parcel) throws IndexOutOfBoundsException {
        Parcel one = now.parcelAt(parcel);
        if (one == null) {
            throw new IndexOutOfBoundsException();
        }
        return now.shortestRelay(one.origin, one.destination);
    }

    public double punctuality() {
        int ended = now.parcelsIn(DELIVERED) + now.parcelsIn(FAILED);
        return ended > 0 ? (double) now.parcelsInTime() / (double) ended : 1.0;
    }

    public int paidIn(int ticks) throws IllegalArgumentException {
        if (!isTicks(ticks)) {
            throw new IllegalArgumentException();
        }
        trial.become(now);
        return trial.pass(ticks);
    }

    public int bestZone(int courier, int ticks) throws IndexOutOfBoundsException, IllegalArgumentException {
        Courier who = now.courierAt(courier);
        if (who == null) {
            throw new IndexOutOfBoundsException();
        }
        if (!isTicks(ticks)) {
            throw new IllegalArgumentException();
        }
        trial.become(now);
        int most = trial.pass(ticks);
        int best = NONE;
        for (int zone = 0; zone < ZONES; zone++) {
            if (!holds(who.area, zone)) {
                trial.become(now);
                trial.widen(courier, zone);
                int paid = trial.pass(ticks);
                if (paid > most) {
                    most = paid;
                    best = zone;
                }
            }
        }
        return best;
    }

    public int worth(int courier, int ticks) throws IndexOutOfBoundsException, IllegalArgumentException {
        if (now.courierAt(courier) == null) {
            throw new IndexOutOfBoundsException();
        }
        if (!isTicks(ticks)) {
            throw new IllegalArgumentException();
        }
        trial.become(now);
        int with = trial.pass(ticks);
        trial.become(now);
        trial.retire(courier);
        return with - trial.pass(ticks);
    }

    public int doneIn() {
        trial.become(now);
        return trial.ticksUntilDone();
    }

    public int append(int value) throws IllegalArgumentException, IllegalStateException {
        if (value < 0 || value > MOST_BYTE) {
            throw new IllegalArgumentException();
        }
        if (text.length >= LONGEST_TEXT) {
            throw new IllegalStateException();
        }
        text.add(value);
        return text.length;
    }

    public int clearText() {
        int previous = text.length;
        text.length = 0;
        return previous;
    }

    public int parse() {
        int error = text.read(MOST_PARCELS - now.parcelCount);
        if (error != NONE) {
            return ERROR_BASE - error;
        }
        history.save(now);
        for (int item = 0; item < text.items; item++) {
            now.accept(text.numberOf(item, ORIGIN), text.numberOf(item, DESTINATION),
                    text.numberOf(item, CUT_OFF), text.numberOf(item, TIP));
        }
        return now.parcelCount;
    }

    public int undo() throws IllegalStateException {
        if (history.count <= 0) {
            throw new IllegalStateException();
        }
        history.restore(now);
        return history.count;
    }

    public long digest() {
        long hash = 31L * DIGEST_START + text.length;
        for (int what = 0; what <= LAST_VALUE; what++) {
            hash = 31L * hash + now.figure(what);
        }
        hash = now.hashCouriers(hash);
        hash = now.hashParcels(hash);
        return 31L * hash + history.count;
    }

    private static boolean isZone(int zone) {
        return zone >= 0 && zone < ZONES;
    }

    private static boolean isArea(int area) {
        return area >= 0 && area <= ALL_ZONES;
    }

    private static boolean isCutOff(int cutOff) {
        return cutOff >= 1 && cutOff <= MOST_CUT_OFF;
    }

    private static boolean isTip(int tip) {
        return tip >= 0 && tip <= MOST_TIP;
    }

    private static boolean isTicks(int ticks) {
        return ticks >= 0 && ticks <= MOST_TICKS;
    }

    private static boolean holds(int set, int member) {
        return (set >> member & 1) == 1;
    }

    private static int nextZone(int from, int to) {
        int columns = to % SIDE - from % SIDE;
        if (columns != 0) {
            return columns > 0 ? from + 1 : from - 1;
        }
        int rows = to / SIDE - from / SIDE;
        if (rows != 0) {
            return rows > 0 ? from + SIDE : from - SIDE;
        }
        return from;
    }

    private static int at(int[] row, int index) {
        return index >= 0 && index < row.length ? row[index] : 0;
    }

    private static int sum(int[] row) {
        int all = 0;
        for (int i = 0; i < row.length; i++) {
            all += row[i];
        }
        return all;
    }

    private static void copyRow(int[] from, int[] to) {
        System.arraycopy(from, 0, to, 0, Math.min(from.length, to.length));
    }

    private static final class Courier {
        int area;
        int zone;
        int tips;
        int doing;
        int parcel;

        Courier() {
            parcel = NONE;
        }

        void begin(int itsArea, int itsZone) {
            area = itsArea;
            zone = itsZone;
            tips = 0;
            setFree();
        }

        void become(Courier other) {
            area = other.area;
            zone = other.zone;
            tips = other.tips;
            doing = other.doing;
            parcel = other.parcel;
        }

        void setFree() {
            doing = FREE;
            parcel = NONE;
        }
    }

    private static final class Parcel {
        int origin;
        int destination;
        int cutOff;
        int tip;
        int state;
        int zone;
        int deliveredAt;
        int paid;
        final int[] legs = new int[MOST_COURIERS];
        final int[] shares = new int[MOST_COURIERS];

        void begin(int from, int to, int itsCutOff, int itsTip) {
            origin = from;
            destination = to;
            cutOff = itsCutOff;
            tip = itsTip;
            state = WAITING;
            zone = from;
            deliveredAt = NONE;
            paid = 0;
            // The object may have held another parcel before an undo.
            for (int c = 0; c < legs.length; c++) {
                legs[c] = 0;
            }
            for (int c = 0; c < shares.length; c++) {
                shares[c] = 0;
            }
        }

        void become(Parcel other) {
            origin = other.origin;
            destination = other.destination;
            cutOff = other.cutOff;
            tip = other.tip;
            state = other.state;
            zone = other.zone;
            deliveredAt = other.deliveredAt;
            paid = other.paid;
            copyRow(other.legs, legs);
            copyRow(other.shares, shares);
        }

        boolean isOpen() {
            return state == WAITING || state == CARRIED;
        }

        boolean suits(int area) {
            return holds(area, zone) && holds(area, nextZone(zone, destination));
        }

        int legsOf(int courier) {
            return at(legs, courier);
        }

        int shareOf(int courier) {
            return at(shares, courier);
        }

        void addLeg(int courier) {
            if (courier >= 0 && courier < legs.length) {
                legs[courier]++;
            }
        }

        void sharePaid() {
            int allLegs = sum(legs);
            if (allLegs <= 0) {
                return;
            }
            int rest = paid;
            for (int c = 0; c < legs.length && c < shares.length; c++) {
                shares[c] = paid * legs[c] / allLegs;
                rest -= shares[c];
            }
            for (int c = 0; c < legs.length && c < shares.length; c++) {
                if (rankOf(c, paid * legs[c] % allLegs, allLegs) < rest) {
                    shares[c]++;
                }
            }
        }

        /** Counts the couriers who come before this one when the rest is given. */
        int rankOf(int courier, int remainder, int allLegs) {
            int rank = 0;
            for (int c = 0; c < legs.length && allLegs > 0; c++) {
                int other = paid * legs[c] % allLegs;
                if (other > remainder || other == remainder && c < courier) {
                    rank++;
                }
            }
            return rank;
        }

        int figure(int what) {
            switch (what) {
                case 0:
                    return origin;
                case 1:
                    return destination;
                case 2:
                    return cutOff;
                case 3:
                    return tip;
                case 4:
                    return state;
                case 5:
                    return zone;
                case 6:
                    return deliveredAt;
                case 7:
                    return paid;
                default:
                    return sum(legs);
            }
        }
    }

    private static final class Exchange {
        int time;
        int grace;
        int courierCount;
        int parcelCount;
        int paid;
        int handovers;
        int moves;
        final Courier[] couriers = new Courier[MOST_COURIERS];
        final Parcel[] parcels = new Parcel[MOST_PARCELS];

        Exchange() {
            grace = FIRST_GRACE;
            for (int c = 0; c < couriers.length; c++) {
                couriers[c] = new Courier();
            }
            for (int p = 0; p < parcels.length; p++) {
                parcels[p] = new Parcel();
            }
        }

        void become(Exchange other) {
            time = other.time;
            grace = other.grace;
            courierCount = other.courierCount;
            parcelCount = other.parcelCount;
            paid = other.paid;
            handovers = other.handovers;
            moves = other.moves;
            for (int c = 0; c < courierCount; c++) {
                Courier mine = courierAt(c);
                Courier its = other.courierAt(c);
                if (mine != null && its != null) {
                    mine.become(its);
                }
            }
            for (int p = 0; p < parcelCount; p++) {
                Parcel mine = parcelAt(p);
                Parcel its = other.parcelAt(p);
                if (mine != null && its != null) {
                    mine.become(its);
                }
            }
        }

        Courier courierAt(int number) {
            if (number < 0 || number >= courierCount || number >= couriers.length) {
                return null;
            }
            return couriers[number];
        }

        Parcel parcelAt(int number) {
            if (number < 0 || number >= parcelCount || number >= parcels.length) {
                return null;
            }
            return parcels[number];
        }

        int join(int area, int zone) {
            int number = courierCount;
            courierCount++;
            Courier who = courierAt(number);
            if (who != null) {
                who.begin(area, zone);
            }
            return number;
        }

        int accept(int origin, int destination, int cutOff, int tip) {
            int number = parcelCount;
            parcelCount++;
            Parcel one = parcelAt(number);
            if (one != null) {
                one.begin(origin, destination, cutOff, tip);
            }
            return number;
        }

        void release(Courier who) {
            Parcel load = parcelAt(who.parcel);
            if (load != null && load.state == CARRIED) {
                load.state = WAITING;
            }
            who.setFree();
        }

        void widen(int courier, int zone) {
            Courier who = courierAt(courier);
            if (who != null) {
                who.area |= 1 << zone;
            }
        }

        void retire(int courier) {
            Courier who = courierAt(courier);
            if (who != null) {
                release(who);
                // No parcel suits a free courier without an area: it does nothing any more.
                who.area = 0;
            }
        }

        /** Tells what is paid in these ticks. */
        int pass(int ticks) {
            int before = paid;
            boolean busy = true;
            for (int passed = 0; passed < ticks; passed++) {
                busy = tick(busy);
            }
            return paid - before;
        }

        int ticksUntilDone() {
            boolean busy = true;
            for (int ticks = 0; ticks <= LONGEST_OUTLOOK; ticks++) {
                if (parcelsIn(WAITING) == 0 && parcelsIn(CARRIED) == 0) {
                    return ticks;
                }
                busy = tick(busy);
            }
            return NONE;
        }

        /**
         * Tells whether a courier was busy. Where none was, all are free and found no parcel, and none
         * will find one in the ticks that follow at once: in those, busy is false and spares asking them.
         */
        boolean tick(boolean busy) {
            boolean stillBusy = false;
            time++;
            for (int c = 0; busy && c < courierCount; c++) {
                Courier who = courierAt(c);
                if (who != null) {
                    boolean wasFree = who.doing == FREE;
                    Parcel aim = parcelAt(who.parcel);
                    if (aim != null && who.doing == CARRYING) {
                        carry(who, c, aim);
                    } else if (aim != null && who.doing == ON_THE_WAY && aim.state == WAITING) {
                        approach(who, aim);
                    } else {
                        choose(who);
                    }
                    stillBusy = stillBusy || !wasFree || who.doing != FREE;
                }
            }
            failLateParcels();
            return stillBusy;
        }

        void carry(Courier who, int number, Parcel load) {
            int next = nextZone(who.zone, load.destination);
            if (!holds(who.area, next)) {
                load.state = WAITING;
                handovers++;
                who.setFree();
                return;
            }
            who.zone = next;
            moves++;
            load.zone = next;
            load.addLeg(number);
            if (next == load.destination) {
                deliver(load);
                who.setFree();
            }
        }

        void deliver(Parcel load) {
            load.state = DELIVERED;
            load.deliveredAt = time;
            load.paid = time <= load.cutOff ? load.tip : load.tip / 2;
            paid += load.paid;
            load.sharePaid();
            for (int c = 0; c < courierCount; c++) {
                Courier who = courierAt(c);
                if (who != null) {
                    who.tips += load.shareOf(c);
                }
            }
        }

        void approach(Courier who, Parcel aim) {
            if (who.zone == aim.zone) {
                who.doing = CARRYING;
                aim.state = CARRIED;
            } else {
                who.zone = nextZone(who.zone, aim.zone);
                moves++;
            }
        }

        void choose(Courier who) {
            who.setFree();
            int best = NONE;
            int lowest = MOST_CUT_OFF + 1;
            for (int p = 0; p < parcelCount; p++) {
                Parcel one = parcelAt(p);
                if (one != null && one.state == WAITING && one.cutOff < lowest
                        && one.suits(who.area) && !isSought(p)) {
                    best = p;
                    lowest = one.cutOff;
                }
            }
            if (best != NONE) {
                who.doing = ON_THE_WAY;
                who.parcel = best;
            }
        }

        boolean isSought(int parcel) {
            for (int c = 0; c < courierCount; c++) {
                Courier who = courierAt(c);
                if (who != null && who.parcel == parcel) {
                    return true;
                }
            }
            return false;
        }

        void failLateParcels() {
            for (int p = 0; p < parcelCount; p++) {
                Parcel one = parcelAt(p);
                if (one != null && one.isOpen() && one.cutOff + grace < time) {
                    one.state = FAILED;
                    freeCouriersOf(p);
                }
            }
        }

        void freeCouriersOf(int parcel) {
            for (int c = 0; c < courierCount; c++) {
                Courier who = courierAt(c);
                if (who != null && who.parcel == parcel) {
                    who.setFree();
                }
            }
        }

        int carriersOf(int zone, int next) {
            int set = 0;
            for (int c = 0; c < courierCount; c++) {
                Courier who = courierAt(c);
                if (who != null && holds(who.area, zone) && holds(who.area, next)) {
                    set |= 1 << c;
                }
            }
            return set;
        }

        /** Keeps all the couriers who could have carried since the last change: the last of them goes farthest. */
        int shortestRelay(int origin, int destination) {
            int relay = 0;
            int able = 0;
            int zone = origin;
            for (int leg = 0; leg < ZONES && zone != destination; leg++) {
                int next = nextZone(zone, destination);
                int carriers = carriersOf(zone, next);
                if (carriers == 0) {
                    return NONE;
                }
                able &= carriers;
                if (able == 0) {
                    relay++;
                    able = carriers;
                }
                zone = next;
            }
            return relay;
        }

        int parcelsIn(int state) {
            int found = 0;
            for (int p = 0; p < parcelCount; p++) {
                Parcel one = parcelAt(p);
                if (one != null && one.state == state) {
                    found++;
                }
            }
            return found;
        }

        int parcelsInTime() {
            int found = 0;
            for (int p = 0; p < parcelCount; p++) {
                Parcel one = parcelAt(p);
                if (one != null && one.state == DELIVERED && one.deliveredAt <= one.cutOff) {
                    found++;
                }
            }
            return found;
        }

        int legsBy(int courier) {
            int all = 0;
            for (int p = 0; p < parcelCount; p++) {
                Parcel one = parcelAt(p);
                if (one != null) {
                    all += one.legsOf(courier);
                }
            }
            return all;
        }

        int figure(int what) {
            switch (what) {
                case 0:
                    return time;
                case 1:
                    return courierCount;
                case 2:
                    return parcelCount;
                case 3:
                    return grace;
                case 8:
                    return paid;
                case 9:
                    return handovers;
                case 10:
                    return moves;
                default:
                    return parcelsIn(what - FIRST_STATE_VALUE);
            }
        }

        int courierFigure(Courier who, int number, int what) {
            switch (what) {
                case 0:
                    return who.area;
                case 1:
                    return who.zone;
                case 2:
                    return who.tips;
                case 3:
                    return who.doing;
                case 4:
                    return who.parcel;
                default:
                    return legsBy(number);
            }
        }

        long hashCouriers(long start) {
            long hash = start;
            for (int c = 0; c < courierCount; c++) {
                Courier who = courierAt(c);
                for (int what = 0; who != null && what <= LAST_COURIER_VALUE; what++) {
                    hash = 31L * hash + courierFigure(who, c, what);
                }
            }
            return hash;
        }

        long hashParcels(long start) {
            long hash = start;
            for (int p = 0; p < parcelCount; p++) {
                Parcel one = parcelAt(p);
                for (int what = 0; one != null && what <= LAST_PARCEL_VALUE; what++) {
                    hash = 31L * hash + one.figure(what);
                }
                for (int c = 0; one != null && c < courierCount; c++) {
                    hash = 31L * hash + one.legsOf(c);
                    hash = 31L * hash + one.shareOf(c);
                }
            }
            return hash;
        }
    }

    /** The saved states, in a ring of exchanges that are written again and again. */
    private static final class History {
        final Exchange[] states = new Exchange[MOST_SAVED];
        int oldest;
        int count;

        History() {
            for (int s = 0; s < states.length; s++) {
                states[s] = new Exchange();
            }
        }

        Exchange stateAt(int age) {
            int place = (oldest + age) % MOST_SAVED;
            if (place < 0 || place >= states.length) {
                return null;
            }
            return states[place];
        }

        void save(Exchange now) {
            if (count >= MOST_SAVED) {
                oldest = (oldest + 1) % MOST_SAVED;
                count--;
            }
            Exchange place = stateAt(count);
            if (place != null) {
                place.become(now);
            }
            count++;
        }

        void restore(Exchange now) {
            count--;
            Exchange newest = stateAt(count);
            if (newest != null) {
                now.become(newest);
            }
        }
    }

    private static final class ParcelText {
        final int[] bytes = new int[LONGEST_TEXT];
        final int[] numbers = new int[MOST_PARCELS * FIELDS];
        int length;
        int items;
        int position;

        void add(int value) {
            if (length >= 0 && length < bytes.length) {
                bytes[length] = value;
                length++;
            }
        }

        int numberOf(int item, int field) {
            return at(numbers, item * FIELDS + field);
        }

        /** Reads all items; returns the syntax error position, or NONE. */
        int read(int room) {
            position = 0;
            for (items = 0; position < length; items++) {
                if (items >= room) {
                    return position;
                }
                int error = readItem();
                if (error != NONE) {
                    return error;
                }
            }
            return NONE;
        }

        int readItem() {
            for (int field = 0; field < FIELDS; field++) {
                int error = readNumber(field);
                if (error != NONE) {
                    return error;
                }
            }
            return NONE;
        }

        int readNumber(int field) {
            int start = position;
            int number = 0;
            for (; position < length && isDigit(at(bytes, position)); position++) {
                if (position - start >= mostDigits(field)) {
                    return position;
                }
                number = number * 10 + at(bytes, position) - '0';
            }
            if (position == start) {
                return position;
            }
            // The range comes before the byte that follows, whichever it is.
            if (!fits(field, number)) {
                return start;
            }
            if (position >= length || at(bytes, position) != endOf(field)) {
                return position;
            }
            position++;
            keep(field, number);
            return NONE;
        }

        void keep(int field, int number) {
            int index = items * FIELDS + field;
            if (index >= 0 && index < numbers.length) {
                numbers[index] = number;
            }
        }

        boolean fits(int field, int number) {
            switch (field) {
                case ORIGIN:
                    return isZone(number);
                case DESTINATION:
                    return isZone(number) && number != numberOf(items, ORIGIN);
                case CUT_OFF:
                    return isCutOff(number);
                default:
                    return isTip(number);
            }
        }

        static boolean isDigit(int value) {
            return value >= '0' && value <= '9';
        }

        static int mostDigits(int field) {
            switch (field) {
                case CUT_OFF:
                    return 3;
                case TIP:
                    return 4;
                default:
                    return 2;
            }
        }

        static int endOf(int field) {
            return field == TIP ? ';' : ',';
        }
    }
}
