import java.util.NoSuchElementException;

/** A roster of harbour pilots; README.md tells how to use it. */
public final class PilotRoster {
    private static final int HOURS = 1000;
    private static final int LAST_BEGIN = 900;
    private static final int LONGEST_WAIT = 48;
    private static final int DAY = 24;
    private static final int NIGHT = 6;
    private static final int TIDES = 12;
    private static final int HIGHEST_TIDE = 9;
    private static final int MOST_DRAUGHT = 30;
    private static final int MOST_LICENCE = 4;
    private static final int MOST_ROOM = 4;
    private static final int MOST_PUT_OFFS = 2;

    private static final int ORDERS = 16;
    private static final int PILOTS = 6;
    private static final int BOATS = 3;
    private static final int CHANGES = 8;
    private static final int CHARACTERS = 60;

    private static final int NONE = -1;
    /** An hour behind all hours at which anything can begin. */
    private static final int NEVER = 5000;

    private static final int REST = 0;
    private static final int RIDE = 1;
    private static final int TRIPS_FOR_LICENCE = 2;
    private static final int DEPTH = 3;
    private static final int NIGHT_REST = 4;
    private static final int RULES = 5;
    private static final int[] LEAST_OF_RULE = {0, 1, 1, 1, 0};
    private static final int[] MOST_OF_RULE = {24, 6, 9, 30, 12};
    private static final int[] FIRST_RULES = {6, 2, 3, 10, 2};
    private static final int[] FIRST_HEIGHTS = {0, 1, 2, 3, 4, 5, 6, 5, 4, 3, 2, 1};

    private static final int HARBOUR = 0;
    private static final int SEA = 1;
    private static final int UNDER_WAY = -1;

    private static final int INWARD = 0;
    private static final int OUTWARD = 1;

    private static final int OPEN = 0;
    private static final int PLANNED = 1;
    private static final int DONE = 2;
    private static final int MISSED = 3;

    private static final int TRIP = 0;
    private static final int RIDE_KIND = 1;

    private static final int ACCEPTED = 0;
    private static final int NOT_OPEN = 1;
    private static final int WRONG_HOUR = 2;
    private static final int NOT_IN_WINDOW = 3;
    private static final int LICENCE_TOO_LOW = 4;
    private static final int PILOT_NOT_FREE = 5;
    private static final int PILOT_ELSEWHERE = 6;
    private static final int PILOT_NOT_RESTED = 7;
    private static final int BOAT_NOT_FREE = 8;
    private static final int TOO_MANY_PILOTS = 9;
    private static final int RIDER_NOT_FREE = 10;
    private static final int RIDER_ELSEWHERE = 11;
    private static final int NO_WAY = 12;
    private static final int NOT_TO_RELEASE = 13;
    private static final int NOT_LAST = 14;
    private static final int PUT_OFF_TWICE = 15;
    private static final int OTHER_EXCEPTION = 20;

    private static final int FIRST_RULE_NUMBER = 20;
    private static final int FIRST_HEIGHT_NUMBER = 30;

    private final Roster roster = new Roster();
    private final Roster snapshot = new Roster();
    private final History history = new History();
    private final Text text = new Text();
    private final Way way = new Way();
    private final int[] queue = new int[ORDERS];
    private boolean hasSnapshot;
    private int keptFault = NONE;
    private int keptReason = ACCEPTED;
    private int keptItem;

    public PilotRoster() {
    }

    // ---- rules, tides, pilots, boats, orders

    public int rule(int what, int value) throws IllegalArgumentException {
        if (what < 0 || what >= RULES) {
            throw new IllegalArgumentException("no such rule");
        }
        if (value < LEAST_OF_RULE[what] || value > MOST_OF_RULE[what]) {
            throw new IllegalArgumentException("no such number for the rule");
        }
        history.add(roster);
        int previous = roster.rules[what];
        roster.rules[what] = value;
        return previous;
    }

    public int tide(int number, int height) throws IllegalArgumentException {
        if (number < 0 || number >= TIDES) {
            throw new IllegalArgumentException("no such tide");
        }
        if (height < 0 || height > HIGHEST_TIDE) {
            throw new IllegalArgumentException("no such height");
        }
        history.add(roster);
        int previous = roster.heights[number];
        roster.heights[number] = height;
        return previous;
    }

    public int depth(int hour) throws IndexOutOfBoundsException {
        requireHour(hour);
        return roster.depthAt(hour);
    }

    public int addPilot(int licence) throws IllegalArgumentException, IllegalStateException {
        if (licence < 1 || licence > MOST_LICENCE) {
            throw new IllegalArgumentException("no such licence");
        }
        if (roster.pilotCount >= PILOTS) {
            throw new IllegalStateException("no more pilots");
        }
        history.add(roster);
        return roster.makePilot(licence);
    }

    public int addBoat(int room) throws IllegalArgumentException, IllegalStateException {
        if (room < 1 || room > MOST_ROOM) {
            throw new IllegalArgumentException("no such room");
        }
        if (roster.boatCount >= BOATS) {
            throw new IllegalStateException("no more boats");
        }
        history.add(roster);
        return roster.makeBoat(room);
    }

    public int order(int size, boolean isOutward, int draught, int earliest, int latest)
            throws IllegalArgumentException, IllegalStateException {
        if (!roster.isOrder(size, draught, earliest, latest)) {
            throw new IllegalArgumentException("no such order can be made");
        }
        if (roster.orderCount >= ORDERS) {
            throw new IllegalStateException("no more orders");
        }
        history.add(roster);
        return roster.makeOrder(size, isOutward ? OUTWARD : INWARD, draught, earliest, latest);
    }

    public int orderOf(int order, int what)
            throws IndexOutOfBoundsException, IllegalArgumentException {
        requireOrder(order);
        Order asked = roster.orders[order];
        switch (what) {
            case 0: return asked.size;
            case 1: return asked.direction;
            case 2: return asked.draught;
            case 3: return asked.earliest;
            case 4: return asked.latest;
            case 5: return asked.state;
            case 6: return asked.pilot;
            case 7: return asked.begin;
            case 8: return asked.end;
            case 9: return asked.putOffs;
            case 10: return roster.hoursOfWindow(asked);
            default: throw new IllegalArgumentException("no such number of an order");
        }
    }

    public int window(int order, int from)
            throws IndexOutOfBoundsException, NoSuchElementException {
        requireOrder(order);
        requireHour(from);
        int hour = roster.firstOfWindow(roster.orders[order], from);
        if (hour == NONE) {
            throw new NoSuchElementException("no such hour in the window");
        }
        return hour;
    }

    // ---- planning

    public int hinders(int order, int pilot, int hour) throws IndexOutOfBoundsException {
        requireOrder(order);
        requirePilot(pilot);
        requireHour(hour);
        return roster.reasonAgainstTrip(roster.orders[order], roster.pilots[pilot], hour);
    }

    public int plan(int order, int pilot, int hour)
            throws IndexOutOfBoundsException, UnsupportedOperationException {
        requireOrder(order);
        requirePilot(pilot);
        requireHour(hour);
        refuseFor(roster.reasonAgainstTrip(roster.orders[order], roster.pilots[pilot], hour));
        history.add(roster);
        roster.addTrip(order, pilot, hour);
        return roster.orders[order].end;
    }

    public int run(int boat, int hour, int pilots)
            throws IndexOutOfBoundsException, IllegalArgumentException,
            UnsupportedOperationException {
        if (!roster.hasBoat(boat)) {
            throw new IndexOutOfBoundsException("no such boat");
        }
        if (hour < 0 || hour > LAST_BEGIN) {
            throw new IndexOutOfBoundsException("no such hour for a run");
        }
        if (pilots >> roster.pilotCount != 0) {
            throw new IllegalArgumentException("no such pilots");
        }
        refuseFor(roster.reasonAgainstRun(roster.boats[boat], hour, pilots));
        history.add(roster);
        roster.addRun(boat, hour, pilots);
        return roster.boats[boat].freeFrom;
    }

    public int serving(int order, int what)
            throws IndexOutOfBoundsException, IllegalArgumentException, NoSuchElementException {
        requireOrder(order);
        if (what < 0 || what > 2) {
            throw new IllegalArgumentException("no such number of a serving");
        }
        if (roster.reasonAgainstServing(order, way) != ACCEPTED) {
            throw new NoSuchElementException("no way to serve the order");
        }
        return what == 0 ? way.hour : what == 1 ? way.pilot : way.boat;
    }

    public int serve(int order) throws IndexOutOfBoundsException, UnsupportedOperationException {
        requireOrder(order);
        refuseFor(roster.reasonAgainstServing(order, way));
        history.add(roster);
        roster.take(order, way);
        return way.hour;
    }

    public int serveAll() {
        history.add(roster);
        int waiting = roster.lineUp(queue);
        int served = 0;
        for (int k = 0; k < waiting; k++) {
            if (roster.reasonAgainstServing(queue[k], way) == ACCEPTED) {
                roster.take(queue[k], way);
                served++;
            }
        }
        return served;
    }

    public int release(int order)
            throws IndexOutOfBoundsException, UnsupportedOperationException {
        requireOrder(order);
        refuseFor(roster.reasonAgainstRelease(order));
        history.add(roster);
        int pilot = roster.orders[order].pilot;
        roster.removeTrip(order);
        return pilot;
    }

    public int putOff(int order, int hours)
            throws IndexOutOfBoundsException, IllegalArgumentException,
            UnsupportedOperationException {
        requireOrder(order);
        if (!canPutOffBy(hours)) {
            throw new IllegalArgumentException("no such number of hours");
        }
        Order late = roster.orders[order];
        refuseFor(late.reasonAgainstDelay());
        history.add(roster);
        late.delay(hours);
        return late.latest;
    }

    public int urgent(int i) throws NoSuchElementException {
        int waiting = roster.lineUp(queue);
        if (i < 0 || i >= waiting) {
            throw new NoSuchElementException("no such place");
        }
        return queue[i];
    }

    // ---- pilots and boats

    public int pilot(int pilot, int what)
            throws IndexOutOfBoundsException, IllegalArgumentException {
        requirePilot(pilot);
        Pilot asked = roster.pilots[pilot];
        switch (what) {
            case 0: return asked.licence;
            case 1: return asked.trips;
            case 2: return roster.tripsDone(pilot);
            case 3: return asked.legs();
            case 4: return asked.freeFrom();
            case 5: return roster.restedFrom(asked);
            case 6: return asked.tripHours(HOURS);
            default: throw new IllegalArgumentException("no such number of a pilot");
        }
    }

    public int planOf(int pilot, int i, int what)
            throws IndexOutOfBoundsException, NoSuchElementException, IllegalArgumentException {
        requirePilot(pilot);
        Leg leg = roster.pilots[pilot].legAt(i);
        if (leg == null) {
            throw new NoSuchElementException("no such place in the plan");
        }
        switch (what) {
            case 0: return leg.kind;
            case 1: return leg.begin;
            case 2: return leg.end;
            case 3: return leg.subject;
            case 4: return leg.goal;
            default: throw new IllegalArgumentException("no such number of a trip or ride");
        }
    }

    public int place(int pilot, int hour) throws IndexOutOfBoundsException {
        requirePilot(pilot);
        requireHour(hour);
        return roster.pilots[pilot].placeAt(hour);
    }

    public int placeAgain(int pilot, int hour) throws IndexOutOfBoundsException {
        requirePilot(pilot);
        requireHour(hour);
        return roster.pilots[pilot].placeHourByHour(hour);
    }

    public int boat(int boat, int what)
            throws IndexOutOfBoundsException, IllegalArgumentException {
        if (!roster.hasBoat(boat)) {
            throw new IndexOutOfBoundsException("no such boat");
        }
        Boat asked = roster.boats[boat];
        switch (what) {
            case 0: return asked.room;
            case 1: return asked.runs;
            case 2: return asked.place;
            case 3: return asked.freeFrom;
            case 4: return asked.rides;
            default: throw new IllegalArgumentException("no such number of a boat");
        }
    }

    // ---- time and accounts

    public int pass(int hours) throws IllegalArgumentException, IllegalStateException {
        if (!canPassBy(hours)) {
            throw new IllegalArgumentException("no such number of hours");
        }
        if (roster.now + hours >= HOURS) {
            throw new IllegalStateException("no hour so late");
        }
        history.add(roster);
        return roster.advance(hours);
    }

    public int number(int what) throws IllegalArgumentException {
        if (what >= OPEN && what <= MISSED) {
            return roster.ordersIn(what);
        }
        if (what >= FIRST_RULE_NUMBER && what < FIRST_RULE_NUMBER + RULES) {
            return roster.rules[what - FIRST_RULE_NUMBER];
        }
        if (what >= FIRST_HEIGHT_NUMBER && what < FIRST_HEIGHT_NUMBER + TIDES) {
            return roster.heights[what - FIRST_HEIGHT_NUMBER];
        }
        switch (what) {
            case 4: return roster.now;
            case 5: return roster.pilotCount;
            case 6: return roster.boatCount;
            case 7: return roster.allRuns();
            case 8: return roster.allRides();
            case 9: return roster.allTripHours();
            case 10: return roster.allPutOffs();
            case 11: return roster.pilotsUnderWay();
            case 12: return history.count;
            case 13: return text.length;
            default: throw new IllegalArgumentException("no such number");
        }
    }

    public double meanWait() throws ArithmeticException {
        int trips = roster.ordersIn(PLANNED) + roster.ordersIn(DONE);
        if (trips == 0) {
            throw new ArithmeticException("no trips");
        }
        return (double) roster.allWaits() / (double) trips;
    }

    public float share(int pilot) throws IndexOutOfBoundsException, ArithmeticException {
        requirePilot(pilot);
        if (roster.now == 0) {
            throw new ArithmeticException("no hours");
        }
        return (float) roster.pilots[pilot].tripHours(roster.now) / (float) roster.now;
    }

    // ---- texts

    public int feed(char character) throws IllegalStateException {
        if (text.length >= CHARACTERS) {
            throw new IllegalStateException("the input is full");
        }
        text.append(character);
        return text.length;
    }

    public int read() throws IllegalArgumentException, UnsupportedOperationException {
        int items = text.countItems();
        if (items == 0) {
            keptFault = text.at;
            text.clear();
            throw new IllegalArgumentException("no text");
        }
        history.prepare(roster);
        text.rewind();
        int reason = ACCEPTED;
        int latest = 0;
        for (int item = 0; item < items && reason == ACCEPTED; item++) {
            text.nextItem();
            latest = item;
            switch (text.kind) {
                case 's': reason = carryOutServe(text.first); break;
                case 'd': reason = carryOutPutOff(text.first, text.second); break;
                case 'w': reason = carryOutPass(text.first); break;
                default: reason = carryOutOrder(text.kind == 'o' ? OUTWARD : INWARD); break;
            }
        }
        text.clear();
        if (reason != ACCEPTED) {
            history.takeBack(roster);
            keepRefusal(reason, latest);
            throw new UnsupportedOperationException("an item is refused");
        }
        history.commit();
        return items;
    }

    public int faultPosition() throws NoSuchElementException {
        if (keptFault == NONE) {
            throw new NoSuchElementException("no fault");
        }
        return keptFault;
    }

    public int refusal(boolean isReason) throws NoSuchElementException {
        if (keptReason == ACCEPTED) {
            throw new NoSuchElementException("no refusal");
        }
        return isReason ? keptReason : keptItem;
    }

    // ---- undo, snapshots

    public int undo() throws IllegalStateException {
        if (history.count == 0) {
            throw new IllegalStateException("nothing to undo");
        }
        history.stepBack(roster);
        return history.count;
    }

    public int saveSnapshot() {
        snapshot.copyFrom(roster);
        hasSnapshot = true;
        return roster.orderCount;
    }

    public int restoreSnapshot() throws IllegalStateException {
        if (!hasSnapshot) {
            throw new IllegalStateException("no snapshot");
        }
        roster.copyFrom(snapshot);
        history.count = 0;
        return roster.orderCount;
    }

    // ---- what the calls share

    private void requireOrder(int order) {
        if (!roster.hasOrder(order)) {
            throw new IndexOutOfBoundsException("no such order");
        }
    }

    private void requirePilot(int pilot) {
        if (!roster.hasPilot(pilot)) {
            throw new IndexOutOfBoundsException("no such pilot");
        }
    }

    private static void requireHour(int hour) {
        if (hour < 0 || hour >= HOURS) {
            throw new IndexOutOfBoundsException("no such hour");
        }
    }

    private static boolean canPutOffBy(int hours) {
        return hours >= 1 && hours <= LONGEST_WAIT;
    }

    private static boolean canPassBy(int hours) {
        return hours >= 0 && hours <= LONGEST_WAIT;
    }

    private void refuseFor(int reason) {
        if (reason != ACCEPTED) {
            keepRefusal(reason, 0);
            throw new UnsupportedOperationException("refused");
        }
    }

    private void keepRefusal(int reason, int item) {
        keptReason = reason;
        keptItem = item;
    }

    private int carryOutServe(int order) {
        if (!roster.hasOrder(order)) {
            return OTHER_EXCEPTION;
        }
        int reason = roster.reasonAgainstServing(order, way);
        if (reason == ACCEPTED) {
            roster.take(order, way);
        }
        return reason;
    }

    private int carryOutPutOff(int order, int hours) {
        if (!roster.hasOrder(order) || !canPutOffBy(hours)) {
            return OTHER_EXCEPTION;
        }
        int reason = roster.orders[order].reasonAgainstDelay();
        if (reason == ACCEPTED) {
            roster.orders[order].delay(hours);
        }
        return reason;
    }

    private int carryOutPass(int hours) {
        if (!canPassBy(hours) || roster.now + hours >= HOURS) {
            return OTHER_EXCEPTION;
        }
        roster.advance(hours);
        return ACCEPTED;
    }

    private int carryOutOrder(int direction) {
        if (!roster.isOrder(text.size, text.first, text.second, text.third)
                || roster.orderCount >= ORDERS) {
            return OTHER_EXCEPTION;
        }
        roster.makeOrder(text.size, direction, text.first, text.second, text.third);
        return ACCEPTED;
    }

    /** A trip or ride in a plan. It never changes, so all kept states can share it. */
    private static final class Leg {
        private final Leg earlier;
        private final int index;
        private final int kind;
        private final int subject;
        private final int begin;
        private final int end;
        private final int goal;

        Leg(Leg earlier, int kind, int subject, int begin, int end, int goal) {
            this.earlier = earlier;
            this.index = earlier == null ? 0 : earlier.index + 1;
            this.kind = kind;
            this.subject = subject;
            this.begin = begin;
            this.end = end;
            this.goal = goal;
        }

        boolean touchesNight() {
            for (int hour = begin; hour < end; hour++) {
                if (hour % DAY < NIGHT) {
                    return true;
                }
            }
            return false;
        }
    }

    private static final class Pilot {
        private int licence;
        private int trips;
        private Leg last;

        void start(int newLicence) {
            licence = newLicence;
            trips = 0;
            last = null;
        }

        void copyFrom(Pilot other) {
            licence = other.licence;
            trips = other.trips;
            last = other.last;
        }

        void add(int kind, int subject, int begin, int end, int goal) {
            last = new Leg(last, kind, subject, begin, end, goal);
        }

        void removeLast() {
            if (last != null) {
                last = last.earlier;
            }
        }

        /** Counts a trip that has ended. */
        void credit(int size, int tripsForLicence) {
            if (size != licence) {
                return;
            }
            trips++;
            if (trips >= tripsForLicence && licence < MOST_LICENCE) {
                licence++;
                trips = 0;
            }
        }

        int legs() {
            return last == null ? 0 : last.index + 1;
        }

        int freeFrom() {
            return last == null ? 0 : last.end;
        }

        /** Where the pilot is while free. */
        int lastGoal() {
            return last == null ? HARBOUR : last.goal;
        }

        Leg legAt(int index) {
            for (Leg leg = last; leg != null; leg = leg.earlier) {
                if (leg.index == index) {
                    return leg;
                }
            }
            return null;
        }

        Leg lastTrip() {
            for (Leg leg = last; leg != null; leg = leg.earlier) {
                if (leg.kind == TRIP) {
                    return leg;
                }
            }
            return null;
        }

        boolean endsWithTripFor(int order) {
            return last != null && last.kind == TRIP && last.subject == order;
        }

        /** The hours ahead of a bound during which the pilot is on a trip. */
        int tripHours(int bound) {
            int hours = 0;
            for (Leg leg = last; leg != null; leg = leg.earlier) {
                if (leg.kind == TRIP && leg.begin < bound) {
                    hours += Math.min(leg.end, bound) - leg.begin;
                }
            }
            return hours;
        }

        int placeAt(int hour) {
            for (Leg leg = last; leg != null; leg = leg.earlier) {
                if (hour >= leg.end) {
                    return leg.goal;
                }
                if (hour >= leg.begin) {
                    return UNDER_WAY;
                }
            }
            return HARBOUR;
        }

        int placeHourByHour(int hour) {
            int place = HARBOUR;
            Leg leg = legAt(0);
            for (int passed = 0; passed <= hour; passed++) {
                if (leg != null && leg.end == passed) {
                    place = leg.goal;
                    leg = legAt(leg.index + 1);
                }
                if (leg != null && leg.begin == passed) {
                    place = UNDER_WAY;
                }
            }
            return place;
        }
    }

    private static final class Boat {
        private int room;
        private int runs;
        private int place;
        private int freeFrom;
        private int rides;

        void start(int newRoom) {
            room = newRoom;
            runs = 0;
            place = HARBOUR;
            freeFrom = 0;
            rides = 0;
        }

        void copyFrom(Boat other) {
            room = other.room;
            runs = other.runs;
            place = other.place;
            freeFrom = other.freeFrom;
            rides = other.rides;
        }

        int goal() {
            return place == HARBOUR ? SEA : HARBOUR;
        }
    }

    private static final class Order {
        private int size;
        private int direction;
        private int draught;
        private int earliest;
        private int latest;
        private int state;
        private int pilot = NONE;
        private int begin = NONE;
        private int end = NONE;
        private int putOffs;

        void start(int newSize, int newDirection, int newDraught, int newEarliest, int newLatest) {
            size = newSize;
            direction = newDirection;
            draught = newDraught;
            earliest = newEarliest;
            latest = newLatest;
            putOffs = 0;
            setOpen();
        }

        void copyFrom(Order other) {
            size = other.size;
            direction = other.direction;
            draught = other.draught;
            earliest = other.earliest;
            latest = other.latest;
            state = other.state;
            pilot = other.pilot;
            begin = other.begin;
            end = other.end;
            putOffs = other.putOffs;
        }

        void setOpen() {
            state = OPEN;
            pilot = NONE;
            begin = NONE;
            end = NONE;
        }

        void setPlanned(int newPilot, int hour) {
            state = PLANNED;
            pilot = newPilot;
            begin = hour;
            end = hour + tripHours();
        }

        int tripHours() {
            return size + 2;
        }

        int origin() {
            return direction == OUTWARD ? HARBOUR : SEA;
        }

        int goal() {
            return direction == OUTWARD ? SEA : HARBOUR;
        }

        boolean hasTrip() {
            return state == PLANNED || state == DONE;
        }

        int reasonAgainstDelay() {
            if (state != OPEN) {
                return NOT_OPEN;
            }
            return putOffs >= MOST_PUT_OFFS ? PUT_OFF_TWICE : ACCEPTED;
        }

        void delay(int hours) {
            latest = Math.min(LAST_BEGIN, latest + hours);
            putOffs++;
        }

        boolean isMoreUrgentThan(Order other) {
            if (latest != other.latest) {
                return latest < other.latest;
            }
            return earliest < other.earliest;
        }
    }

    /** How an order would be served: filled by the roster, used again by each call. */
    private static final class Way {
        private int hour;
        private int pilot;
        private int boat;

        void set(int newHour, int newPilot, int newBoat) {
            hour = newHour;
            pilot = newPilot;
            boat = newBoat;
        }
    }

    /** All that is undone, saved and restored. */
    private static final class Roster {
        private final int[] rules = new int[RULES];
        private final int[] heights = new int[TIDES];
        private final Order[] orders = new Order[ORDERS];
        private final Pilot[] pilots = new Pilot[PILOTS];
        private final Boat[] boats = new Boat[BOATS];
        private int now;
        private int orderCount;
        private int pilotCount;
        private int boatCount;

        Roster() {
            System.arraycopy(FIRST_RULES, 0, rules, 0, RULES);
            System.arraycopy(FIRST_HEIGHTS, 0, heights, 0, TIDES);
            for (int k = 0; k < ORDERS; k++) {
                orders[k] = new Order();
            }
            for (int k = 0; k < PILOTS; k++) {
                pilots[k] = new Pilot();
            }
            for (int k = 0; k < BOATS; k++) {
                boats[k] = new Boat();
            }
        }

        void copyFrom(Roster other) {
            now = other.now;
            orderCount = other.orderCount;
            pilotCount = other.pilotCount;
            boatCount = other.boatCount;
            System.arraycopy(other.rules, 0, rules, 0, RULES);
            System.arraycopy(other.heights, 0, heights, 0, TIDES);
            for (int k = 0; k < orderCount; k++) {
                orders[k].copyFrom(other.orders[k]);
            }
            for (int k = 0; k < pilotCount; k++) {
                pilots[k].copyFrom(other.pilots[k]);
            }
            for (int k = 0; k < boatCount; k++) {
                boats[k].copyFrom(other.boats[k]);
            }
        }

        boolean hasOrder(int order) {
            return order >= 0 && order < orderCount;
        }

        boolean hasPilot(int pilot) {
            return pilot >= 0 && pilot < pilotCount;
        }

        boolean hasBoat(int boat) {
            return boat >= 0 && boat < boatCount;
        }

        int makePilot(int licence) {
            int made = pilotCount;
            if (made < PILOTS) {
                pilots[made].start(licence);
                pilotCount++;
            }
            return made;
        }

        int makeBoat(int room) {
            int made = boatCount;
            if (made < BOATS) {
                boats[made].start(room);
                boatCount++;
            }
            return made;
        }

        boolean isOrder(int size, int draught, int earliest, int latest) {
            return size >= 1 && size <= MOST_LICENCE
                    && draught >= 1 && draught <= MOST_DRAUGHT
                    && earliest >= now && latest >= earliest && latest <= LAST_BEGIN;
        }

        int makeOrder(int size, int direction, int draught, int earliest, int latest) {
            int made = orderCount;
            if (made < ORDERS) {
                orders[made].start(size, direction, draught, earliest, latest);
                orderCount++;
            }
            return made;
        }

        // ---- tides and windows

        int depthAt(int hour) {
            return rules[DEPTH] + heights[Math.floorMod(hour, TIDES)];
        }

        boolean isDeepEnough(Order order, int begin) {
            int end = begin + order.tripHours();
            for (int hour = begin; hour < end; hour++) {
                if (depthAt(hour) < order.draught) {
                    return false;
                }
            }
            return true;
        }

        int firstOfWindow(Order order, int from) {
            int first = Math.max(from, order.earliest);
            // The tide comes again every 12 hours: a depth that they lack never comes.
            int last = Math.min(order.latest, first + TIDES - 1);
            for (int hour = first; hour <= last; hour++) {
                if (isDeepEnough(order, hour)) {
                    return hour;
                }
            }
            return NONE;
        }

        int hoursOfWindow(Order order) {
            int hours = 0;
            for (int hour = order.earliest; hour <= order.latest; hour++) {
                if (isDeepEnough(order, hour)) {
                    hours++;
                }
            }
            return hours;
        }

        // ---- trips and runs

        int restedFrom(Pilot pilot) {
            Leg trip = pilot.lastTrip();
            if (trip == null) {
                return 0;
            }
            return trip.end + rules[REST] + (trip.touchesNight() ? rules[NIGHT_REST] : 0);
        }

        int reasonAgainstTrip(Order order, Pilot pilot, int hour) {
            if (order.state != OPEN) {
                return NOT_OPEN;
            }
            if (hour < now || hour < order.earliest || hour > order.latest) {
                return WRONG_HOUR;
            }
            if (!isDeepEnough(order, hour)) {
                return NOT_IN_WINDOW;
            }
            if (pilot.licence < order.size) {
                return LICENCE_TOO_LOW;
            }
            if (hour < pilot.freeFrom()) {
                return PILOT_NOT_FREE;
            }
            if (pilot.lastGoal() != order.origin()) {
                return PILOT_ELSEWHERE;
            }
            return hour < restedFrom(pilot) ? PILOT_NOT_RESTED : ACCEPTED;
        }

        void addTrip(int order, int pilot, int hour) {
            if (!hasOrder(order) || !hasPilot(pilot)) {
                return;
            }
            Order planned = orders[order];
            planned.setPlanned(pilot, hour);
            pilots[pilot].add(TRIP, order, hour, planned.end, planned.goal());
        }

        int reasonAgainstRelease(int order) {
            if (!hasOrder(order) || orders[order].state != PLANNED || orders[order].begin <= now) {
                return NOT_TO_RELEASE;
            }
            int pilot = orders[order].pilot;
            if (!hasPilot(pilot) || !pilots[pilot].endsWithTripFor(order)) {
                return NOT_LAST;
            }
            return ACCEPTED;
        }

        void removeTrip(int order) {
            if (!hasOrder(order) || !hasPilot(orders[order].pilot)) {
                return;
            }
            pilots[orders[order].pilot].removeLast();
            orders[order].setOpen();
        }

        int reasonAgainstRun(Boat boat, int hour, int riders) {
            if (hour < now) {
                return WRONG_HOUR;
            }
            if (hour < boat.freeFrom) {
                return BOAT_NOT_FREE;
            }
            if (Integer.bitCount(riders) > boat.room) {
                return TOO_MANY_PILOTS;
            }
            for (int k = 0; k < pilotCount; k++) {
                if (isRider(riders, k) && hour < pilots[k].freeFrom()) {
                    return RIDER_NOT_FREE;
                }
            }
            for (int k = 0; k < pilotCount; k++) {
                if (isRider(riders, k) && pilots[k].lastGoal() != boat.place) {
                    return RIDER_ELSEWHERE;
                }
            }
            return ACCEPTED;
        }

        static boolean isRider(int riders, int pilot) {
            return (riders >> pilot & 1) != 0;
        }

        void addRun(int boat, int hour, int riders) {
            if (!hasBoat(boat)) {
                return;
            }
            Boat used = boats[boat];
            int end = hour + rules[RIDE];
            for (int k = 0; k < pilotCount; k++) {
                if (isRider(riders, k)) {
                    pilots[k].add(RIDE_KIND, boat, hour, end, used.goal());
                    used.rides++;
                }
            }
            used.place = used.goal();
            used.freeFrom = end;
            used.runs++;
        }

        // ---- serving

        /** The first hour at which a pilot could make a trip without a ride, tides apart. */
        int fromWithoutRide(Order order, Pilot pilot) {
            if (pilot.licence < order.size || pilot.lastGoal() != order.origin()) {
                return NEVER;
            }
            return Math.max(pilot.freeFrom(), restedFrom(pilot));
        }

        /** The same behind a ride: the rest counts at its end, all else at its beginning. */
        int fromWithRide(Order order, Pilot pilot, Boat boat) {
            if (pilot.licence < order.size || pilot.lastGoal() != boat.place
                    || boat.goal() != order.origin()) {
                return NEVER;
            }
            int begin = Math.max(now, Math.max(pilot.freeFrom(), boat.freeFrom));
            return Math.max(begin + rules[RIDE], restedFrom(pilot));
        }

        /** The first hour at which an order could be served in any way, tides apart. */
        int fromAnyWay(Order order) {
            int from = NEVER;
            for (int k = 0; k < pilotCount; k++) {
                from = Math.min(from, fromWithoutRide(order, pilots[k]));
                for (int b = 0; b < boatCount; b++) {
                    from = Math.min(from, fromWithRide(order, pilots[k], boats[b]));
                }
            }
            return from;
        }

        /** Fills the way if there is one. */
        int reasonAgainstServing(int order, Way way) {
            if (!hasOrder(order) || orders[order].state != OPEN) {
                return NOT_OPEN;
            }
            Order served = orders[order];
            // Who can serve at an hour can at each later one, so the window alone is searched.
            int hour = firstOfWindow(served, Math.max(now, fromAnyWay(served)));
            if (hour == NONE) {
                return NO_WAY;
            }
            return chooseWay(served, hour, way) ? ACCEPTED : NO_WAY;
        }

        boolean chooseWay(Order order, int hour, Way way) {
            for (int k = 0; k < pilotCount; k++) {
                if (fromWithoutRide(order, pilots[k]) <= hour) {
                    way.set(hour, k, NONE);
                    return true;
                }
            }
            for (int k = 0; k < pilotCount; k++) {
                for (int b = 0; b < boatCount; b++) {
                    if (fromWithRide(order, pilots[k], boats[b]) <= hour) {
                        way.set(hour, k, b);
                        return true;
                    }
                }
            }
            return false;
        }

        void take(int order, Way way) {
            if (way.boat != NONE) {
                addRun(way.boat, way.hour - rules[RIDE], 1 << way.pilot);
            }
            addTrip(order, way.pilot, way.hour);
        }

        /** Puts the open orders into a row by urgency and tells how many they are. */
        int lineUp(int[] row) {
            int count = 0;
            for (int k = 0; k < orderCount && count < row.length; k++) {
                if (orders[k].state == OPEN) {
                    int at = count;
                    for (; at > 0 && orders[k].isMoreUrgentThan(orders[row[at - 1]]); at--) {
                        row[at] = row[at - 1];
                    }
                    row[at] = k;
                    count++;
                }
            }
            return count;
        }

        // ---- time

        /** Tells how many orders are missed by that. */
        int advance(int hours) {
            now += hours;
            for (int k = 0; k < orderCount; k++) {
                Order ended = firstEnded();
                if (ended != null) {
                    finish(ended);
                }
            }
            int missed = 0;
            for (int k = 0; k < orderCount; k++) {
                if (orders[k].state == OPEN && orders[k].latest < now) {
                    orders[k].state = MISSED;
                    missed++;
                }
            }
            return missed;
        }

        Order firstEnded() {
            Order first = null;
            for (int k = 0; k < orderCount; k++) {
                if (orders[k].state == PLANNED && orders[k].end <= now
                        && (first == null || orders[k].end < first.end)) {
                    first = orders[k];
                }
            }
            return first;
        }

        void finish(Order order) {
            order.state = DONE;
            if (hasPilot(order.pilot)) {
                pilots[order.pilot].credit(order.size, rules[TRIPS_FOR_LICENCE]);
            }
        }

        // ---- accounts

        int ordersIn(int state) {
            int count = 0;
            for (int k = 0; k < orderCount; k++) {
                if (orders[k].state == state) {
                    count++;
                }
            }
            return count;
        }

        int tripsDone(int pilot) {
            int count = 0;
            for (int k = 0; k < orderCount; k++) {
                if (orders[k].state == DONE && orders[k].pilot == pilot) {
                    count++;
                }
            }
            return count;
        }

        int allRuns() {
            int count = 0;
            for (int k = 0; k < boatCount; k++) {
                count += boats[k].runs;
            }
            return count;
        }

        int allRides() {
            int count = 0;
            for (int k = 0; k < boatCount; k++) {
                count += boats[k].rides;
            }
            return count;
        }

        int allTripHours() {
            int hours = 0;
            for (int k = 0; k < orderCount; k++) {
                if (orders[k].hasTrip()) {
                    hours += orders[k].tripHours();
                }
            }
            return hours;
        }

        int allWaits() {
            int hours = 0;
            for (int k = 0; k < orderCount; k++) {
                if (orders[k].hasTrip()) {
                    hours += orders[k].begin - orders[k].earliest;
                }
            }
            return hours;
        }

        int allPutOffs() {
            int count = 0;
            for (int k = 0; k < orderCount; k++) {
                count += orders[k].putOffs;
            }
            return count;
        }

        int pilotsUnderWay() {
            int count = 0;
            for (int k = 0; k < pilotCount; k++) {
                if (pilots[k].placeAt(now) == UNDER_WAY) {
                    count++;
                }
            }
            return count;
        }
    }

    /** The states ahead of the latest changes, in a ring. */
    private static final class History {
        /** One slot more than can be undone, so that a change that fails costs none of them. */
        private static final int SLOTS = CHANGES + 1;

        private final Roster[] slots = new Roster[SLOTS];
        private int free;
        private int count;

        History() {
            for (int k = 0; k < SLOTS; k++) {
                slots[k] = new Roster();
            }
        }

        void add(Roster roster) {
            prepare(roster);
            commit();
        }

        void prepare(Roster roster) {
            slots[free].copyFrom(roster);
        }

        void commit() {
            free = free == SLOTS - 1 ? 0 : free + 1;
            count = Math.min(CHANGES, count + 1);
        }

        void takeBack(Roster roster) {
            roster.copyFrom(slots[free]);
        }

        void stepBack(Roster roster) {
            free = free == 0 ? SLOTS - 1 : free - 1;
            count--;
            takeBack(roster);
        }
    }

    /** The input, and a reader that goes through it item by item. */
    private static final class Text {
        private final char[] characters = new char[CHARACTERS];
        private int length;
        private int at;
        private char kind;
        private int size;
        private int first;
        private int second;
        private int third;

        void append(char character) {
            if (length < CHARACTERS) {
                characters[length] = character;
                length++;
            }
        }

        void clear() {
            length = 0;
        }

        void rewind() {
            at = 0;
        }

        /** Tells 0 if the input is no text; the reader stands at the fault then. */
        int countItems() {
            rewind();
            for (int items = 1; items <= CHARACTERS; items++) {
                if (!readItem()) {
                    return 0;
                }
                if (!accept(';')) {
                    return at == length ? items : 0;
                }
            }
            return 0;
        }

        /** For an input that is a text. */
        void nextItem() {
            accept(';');
            readItem();
        }

        private boolean readItem() {
            char start = peek();
            if (start >= '1' && start <= '4') {
                at++;
                size = start - '0';
                return readOrder();
            }
            if (start != 's' && start != 'd' && start != 'w') {
                return false;
            }
            at++;
            kind = start;
            first = readNumber();
            if (start != 'd') {
                return first != NONE;
            }
            if (first == NONE || !accept('+')) {
                return false;
            }
            second = readNumber();
            return second != NONE;
        }

        private boolean readOrder() {
            kind = peek();
            if (!accept('i') && !accept('o')) {
                return false;
            }
            first = readNumber();
            if (first == NONE || !accept('@')) {
                return false;
            }
            second = readNumber();
            if (second == NONE || !accept('-')) {
                return false;
            }
            third = readNumber();
            return third != NONE;
        }

        private int readNumber() {
            int value = NONE;
            for (int digits = 0; digits < 3 && isDigit(peek()); digits++) {
                value = Math.max(value, 0) * 10 + (peek() - '0');
                at++;
            }
            return value;
        }

        private static boolean isDigit(char character) {
            return character >= '0' && character <= '9';
        }

        private boolean accept(char character) {
            if (peek() != character) {
                return false;
            }
            at++;
            return true;
        }

        /** At the end a character that no text holds. */
        private char peek() {
            return at >= 0 && at < length ? characters[at] : (char) 0;
        }
    }
}
