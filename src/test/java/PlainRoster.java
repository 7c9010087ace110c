import java.util.ArrayDeque;
import java.util.ArrayList;
import java.util.Comparator;
import java.util.Deque;
import java.util.List;
import java.util.NoSuchElementException;
import java.util.regex.Matcher;
import java.util.regex.Pattern;

/**
 * The document once more, in another way: all that can be found by trying is tried hour by hour,
 * and every state is a deep copy. ModelTest compares it with PilotRoster.
 */
final class PlainRoster implements Answering {
    private static final Pattern TEXT = Pattern.compile("ITEM(;ITEM)*".replace("ITEM",
            "([1-4][io][0-9]{1,3}@[0-9]{1,3}-[0-9]{1,3}|s[0-9]{1,3}"
                    + "|d[0-9]{1,3}\\+[0-9]{1,3}|w[0-9]{1,3})"));
    private static final int[][] RULE_RANGES = {{0, 24}, {1, 6}, {1, 9}, {1, 30}, {0, 12}};

    /** Thrown inside for what is refused. */
    private static final class Refused extends RuntimeException {
        private static final long serialVersionUID = 1;
        private final int reason;
        private final int item;

        Refused(int reason, int item) {
            this.reason = reason;
            this.item = item;
        }
    }

    private record Stint(boolean isTrip, int begin, int end, int subject, int goal) {
    }

    private record Run(int boat, int begin, int end, int goal, int pilots) {
    }

    private static final class Order {
        int size;
        int direction;
        int draught;
        int earliest;
        int latest;
        int state;
        int pilot = -1;
        int begin = -1;
        int end = -1;
        int putOffs;
    }

    private static final class State {
        int now;
        int[] rules = {6, 2, 3, 10, 2};
        int[] heights = {0, 1, 2, 3, 4, 5, 6, 5, 4, 3, 2, 1};
        List<Order> orders = new ArrayList<>();
        List<int[]> pilots = new ArrayList<>();
        List<List<Stint>> plans = new ArrayList<>();
        List<Integer> rooms = new ArrayList<>();
        List<Run> runs = new ArrayList<>();

        State copy() {
            State made = new State();
            made.now = now;
            made.rules = rules.clone();
            made.heights = heights.clone();
            for (Order order : orders) {
                Order other = new Order();
                other.size = order.size;
                other.direction = order.direction;
                other.draught = order.draught;
                other.earliest = order.earliest;
                other.latest = order.latest;
                other.state = order.state;
                other.pilot = order.pilot;
                other.begin = order.begin;
                other.end = order.end;
                other.putOffs = order.putOffs;
                made.orders.add(other);
            }
            for (int[] pilot : pilots) {
                made.pilots.add(pilot.clone());
            }
            for (List<Stint> plan : plans) {
                made.plans.add(new ArrayList<>(plan));
            }
            made.rooms.addAll(rooms);
            made.runs.addAll(runs);
            return made;
        }
    }

    private State s = new State();
    private State snapshot;
    private final Deque<State> changes = new ArrayDeque<>();
    private String input = "";
    private int fault = -1;
    private int reason;
    private int item;

    @Override
    public Object call(String name, int... a) {
        State ahead = isChange(name) ? s.copy() : s;
        try {
            Object answer = answer(name, a);
            if (isChange(name)) {
                changes.addLast(ahead);
                if (changes.size() > 8) {
                    changes.removeFirst();
                }
            }
            return answer;
        } catch (Refused refused) {
            s = ahead;
            reason = refused.reason;
            item = refused.item;
            return UnsupportedOperationException.class;
        } catch (RuntimeException thrown) {
            s = ahead;
            return thrown.getClass();
        }
    }

    private static boolean isChange(String name) {
        return List.of("rule", "tide", "addPilot", "addBoat", "order", "plan", "run", "serve",
                "serveAll", "release", "putOff", "pass", "read").contains(name);
    }

    private Object answer(String name, int[] a) {
        switch (name) {
            case "rule": return rule(a[0], a[1]);
            case "tide": return tide(a[0], a[1]);
            case "depth": return depth(hour(a[0]));
            case "addPilot": return addPilot(a[0]);
            case "addBoat": return addBoat(a[0]);
            case "order": return order(a[0], a[1], a[2], a[3], a[4]);
            case "orderOf": return orderOf(a[0], a[1]);
            case "window": return window(a[0], a[1]);
            case "hinders": return hinders(a[0], a[1], a[2]);
            case "plan": return plan(a[0], a[1], a[2]);
            case "run": return run(a[0], a[1], a[2]);
            case "serving": return serving(a[0], a[1]);
            case "serve": return serve(a[0]);
            case "serveAll": return serveAll();
            case "release": return release(a[0]);
            case "putOff": return putOff(a[0], a[1]);
            case "urgent": return urgent(a[0]);
            case "pilot": return pilot(a[0], a[1]);
            case "planOf": return planOf(a[0], a[1], a[2]);
            case "place":
            case "placeAgain": return place(index(a[0], s.pilots.size()), hour(a[1]));
            case "boat": return boat(a[0], a[1]);
            case "pass": return pass(a[0]);
            case "number": return number(a[0]);
            case "meanWait": return meanWait();
            case "share": return share(a[0]);
            case "feed": return feed((char) a[0]);
            case "read": return read();
            case "faultPosition": return kept(fault >= 0, fault);
            case "refusal": return kept(reason != 0, a[0] != 0 ? reason : item);
            case "undo": return undo();
            case "saveSnapshot": snapshot = s.copy(); return s.orders.size();
            case "restoreSnapshot": return restoreSnapshot();
            default: throw new AssertionError(name);
        }
    }

    // ---- what is asked of arguments

    private static int index(int k, int count) {
        if (k < 0 || k >= count) {
            throw new IndexOutOfBoundsException();
        }
        return k;
    }

    private static int hour(int k) {
        return index(k, 1000);
    }

    private Order orderAt(int k) {
        return s.orders.get(index(k, s.orders.size()));
    }

    private static void ask(boolean holds) {
        if (!holds) {
            throw new IllegalArgumentException();
        }
    }

    private static void askState(boolean holds) {
        if (!holds) {
            throw new IllegalStateException();
        }
    }

    private static Object kept(boolean isKept, int value) {
        if (!isKept) {
            throw new NoSuchElementException();
        }
        return value;
    }

    private static int refuse(int why) {
        if (why != 0) {
            throw new Refused(why, 0);
        }
        return why;
    }

    private static boolean isIn(int k, int least, int most) {
        return k >= least && k <= most;
    }

    // ---- rules, tides, pilots, boats, orders

    private int rule(int what, int value) {
        ask(isIn(what, 0, 4) && isIn(value, RULE_RANGES[what][0], RULE_RANGES[what][1]));
        int previous = s.rules[what];
        s.rules[what] = value;
        return previous;
    }

    private int tide(int number, int height) {
        ask(isIn(number, 0, 11) && isIn(height, 0, 9));
        int previous = s.heights[number];
        s.heights[number] = height;
        return previous;
    }

    private int depth(int hour) {
        return s.rules[3] + s.heights[hour % 12];
    }

    private int addPilot(int licence) {
        ask(isIn(licence, 1, 4));
        askState(s.pilots.size() < 6);
        s.pilots.add(new int[] {licence, 0, 0});
        s.plans.add(new ArrayList<>());
        return s.pilots.size() - 1;
    }

    private int addBoat(int room) {
        ask(isIn(room, 1, 4));
        askState(s.rooms.size() < 3);
        s.rooms.add(room);
        return s.rooms.size() - 1;
    }

    private int order(int size, int direction, int draught, int earliest, int latest) {
        ask(isIn(size, 1, 4) && isIn(draught, 1, 30) && isIn(earliest, s.now, 900)
                && isIn(latest, earliest, 900));
        askState(s.orders.size() < 16);
        Order made = new Order();
        made.size = size;
        made.direction = direction;
        made.draught = draught;
        made.earliest = earliest;
        made.latest = latest;
        s.orders.add(made);
        return s.orders.size() - 1;
    }

    private boolean isInWindow(Order o, int hour) {
        int least = 99;
        for (int k = 0; k < o.size + 2; k++) {
            least = Math.min(least, depth(hour + k));
        }
        return isIn(hour, o.earliest, o.latest) && least >= o.draught;
    }

    private int orderOf(int order, int what) {
        Order o = orderAt(order);
        ask(isIn(what, 0, 10));
        int hours = 0;
        for (int hour = 0; hour <= 900; hour++) {
            hours += isInWindow(o, hour) ? 1 : 0;
        }
        return new int[] {o.size, o.direction, o.draught, o.earliest, o.latest, o.state, o.pilot,
            o.begin, o.end, o.putOffs, hours}[what];
    }

    private int window(int order, int from) {
        Order o = orderAt(order);
        for (int hour = hour(from); hour <= 900; hour++) {
            if (isInWindow(o, hour)) {
                return hour;
            }
        }
        throw new NoSuchElementException();
    }

    // ---- planning

    private int origin(Order o) {
        return 1 - o.direction;
    }

    private Stint last(int pilot) {
        List<Stint> plan = s.plans.get(pilot);
        return plan.isEmpty() ? null : plan.get(plan.size() - 1);
    }

    private int freeFrom(int pilot) {
        return last(pilot) == null ? 0 : last(pilot).end();
    }

    private int restedFrom(int pilot) {
        int rested = 0;
        for (Stint stint : s.plans.get(pilot)) {
            if (stint.isTrip()) {
                boolean isNight = false;
                for (int hour = stint.begin(); hour < stint.end(); hour++) {
                    isNight = isNight || hour % 24 <= 5;
                }
                rested = stint.end() + s.rules[0] + (isNight ? s.rules[4] : 0);
            }
        }
        return rested;
    }

    private int hinders(int order, int pilot, int hour) {
        Order o = orderAt(order);
        index(pilot, s.pilots.size());
        hour(hour);
        boolean[] reasons = {
            o.state != 0,
            hour < s.now || !isIn(hour, o.earliest, o.latest),
            !isInWindow(o, hour),
            s.pilots.get(pilot)[0] < o.size,
            hour < freeFrom(pilot),
            place(pilot, hour) != origin(o),
            hour < restedFrom(pilot)};
        for (int k = 0; k < reasons.length; k++) {
            if (reasons[k]) {
                return k + 1;
            }
        }
        return 0;
    }

    private int plan(int order, int pilot, int hour) {
        refuse(hinders(order, pilot, hour));
        Order o = orderAt(order);
        o.state = 1;
        o.pilot = pilot;
        o.begin = hour;
        o.end = hour + o.size + 2;
        s.plans.get(pilot).add(new Stint(true, hour, o.end, order, o.direction));
        return o.end;
    }

    private List<Run> runsOf(int boat) {
        List<Run> found = new ArrayList<>(s.runs);
        found.removeIf(run -> run.boat() != boat);
        return found;
    }

    private int boatPlace(int boat) {
        return runsOf(boat).size() % 2;
    }

    private int boatFree(int boat) {
        int free = 0;
        for (Run run : runsOf(boat)) {
            free = run.end();
        }
        return free;
    }

    private int reasonAgainstRun(int boat, int hour, int pilots) {
        if (hour < s.now) {
            return 2;
        }
        if (hour < boatFree(boat)) {
            return 8;
        }
        if (Integer.bitCount(pilots) > s.rooms.get(boat)) {
            return 9;
        }
        boolean isElsewhere = false;
        for (int k = 0; k < s.pilots.size(); k++) {
            if ((pilots & 1 << k) != 0) {
                if (hour < freeFrom(k)) {
                    return 10;
                }
                isElsewhere = isElsewhere || place(k, hour) != boatPlace(boat);
            }
        }
        return isElsewhere ? 11 : 0;
    }

    private int run(int boat, int hour, int pilots) {
        index(boat, s.rooms.size());
        index(hour, 901);
        ask(isIn(pilots, 0, (1 << s.pilots.size()) - 1));
        refuse(reasonAgainstRun(boat, hour, pilots));
        int end = hour + s.rules[1];
        int goal = 1 - boatPlace(boat);
        s.runs.add(new Run(boat, hour, end, goal, pilots));
        for (int k = 0; k < s.pilots.size(); k++) {
            if ((pilots & 1 << k) != 0) {
                s.plans.get(k).add(new Stint(false, hour, end, boat, goal));
            }
        }
        return end;
    }

    /** Tries all hours, and all rides on copies. */
    private int[] way(int order) {
        Order o = orderAt(order);
        for (int hour = Math.max(s.now, o.earliest); hour <= o.latest; hour++) {
            if (!isInWindow(o, hour)) {
                continue;
            }
            for (int p = 0; p < s.pilots.size(); p++) {
                if (hinders(order, p, hour) == 0) {
                    return new int[] {hour, p, -1};
                }
            }
            for (int p = 0; p < s.pilots.size(); p++) {
                for (int b = 0; b < s.rooms.size(); b++) {
                    if (isWayBehindRide(order, p, b, hour)) {
                        return new int[] {hour, p, b};
                    }
                }
            }
        }
        return null;
    }

    private boolean isWayBehindRide(int order, int pilot, int boat, int hour) {
        int begin = hour - s.rules[1];
        if (begin < 0 || reasonAgainstRun(boat, begin, 1 << pilot) != 0) {
            return false;
        }
        State ahead = s;
        s = ahead.copy();
        run(boat, begin, 1 << pilot);
        boolean isWay = hinders(order, pilot, hour) == 0;
        s = ahead;
        return isWay;
    }

    private Object serving(int order, int what) {
        Order o = orderAt(order);
        ask(isIn(what, 0, 2));
        int[] way = o.state == 0 ? way(order) : null;
        return kept(way != null, way == null ? 0 : way[what]);
    }

    private int serve(int order) {
        Order o = orderAt(order);
        refuse(o.state == 0 ? 0 : 1);
        int[] way = way(order);
        refuse(way == null ? 12 : 0);
        if (way[2] >= 0) {
            run(way[2], way[0] - s.rules[1], 1 << way[1]);
        }
        plan(order, way[1], way[0]);
        return way[0];
    }

    private List<Integer> byUrgency() {
        List<Integer> found = new ArrayList<>();
        for (int k = 0; k < s.orders.size(); k++) {
            if (s.orders.get(k).state == 0) {
                found.add(k);
            }
        }
        found.sort(Comparator.comparingInt((Integer k) -> s.orders.get(k).latest)
                .thenComparingInt(k -> s.orders.get(k).earliest).thenComparingInt(k -> k));
        return found;
    }

    private int serveAll() {
        int served = 0;
        for (int order : byUrgency()) {
            if (way(order) != null) {
                serve(order);
                served++;
            }
        }
        return served;
    }

    private int release(int order) {
        Order o = orderAt(order);
        refuse(o.state != 1 || o.begin <= s.now ? 13 : 0);
        int pilot = o.pilot;
        refuse(last(pilot).isTrip() && last(pilot).subject() == order ? 0 : 14);
        s.plans.get(pilot).remove(s.plans.get(pilot).size() - 1);
        o.state = 0;
        o.pilot = -1;
        o.begin = -1;
        o.end = -1;
        return pilot;
    }

    private int putOff(int order, int hours) {
        Order o = orderAt(order);
        ask(isIn(hours, 1, 48));
        refuse(o.state != 0 ? 1 : o.putOffs == 2 ? 15 : 0);
        o.putOffs++;
        o.latest = Math.min(900, o.latest + hours);
        return o.latest;
    }

    private Object urgent(int i) {
        List<Integer> all = byUrgency();
        boolean isPlace = isIn(i, 0, all.size() - 1);
        return kept(isPlace, isPlace ? all.get(i) : 0);
    }

    // ---- pilots and boats

    private int pilot(int pilot, int what) {
        index(pilot, s.pilots.size());
        ask(isIn(what, 0, 6));
        int hours = 0;
        for (Stint stint : s.plans.get(pilot)) {
            hours += stint.isTrip() ? stint.end() - stint.begin() : 0;
        }
        int[] numbers = s.pilots.get(pilot);
        return new int[] {numbers[0], numbers[1], numbers[2], s.plans.get(pilot).size(),
            freeFrom(pilot), restedFrom(pilot), hours}[what];
    }

    private int planOf(int pilot, int i, int what) {
        index(pilot, s.pilots.size());
        List<Stint> plan = s.plans.get(pilot);
        kept(isIn(i, 0, plan.size() - 1), 0);
        ask(isIn(what, 0, 4));
        Stint stint = plan.get(i);
        return new int[] {stint.isTrip() ? 0 : 1, stint.begin(), stint.end(), stint.subject(),
            stint.goal()}[what];
    }

    private int place(int pilot, int hour) {
        int place = 0;
        for (Stint stint : s.plans.get(pilot)) {
            if (stint.end() <= hour) {
                place = stint.goal();
            } else if (stint.begin() <= hour) {
                place = -1;
            }
        }
        return place;
    }

    private int boat(int boat, int what) {
        index(boat, s.rooms.size());
        ask(isIn(what, 0, 4));
        int rides = 0;
        for (Run run : runsOf(boat)) {
            rides += Integer.bitCount(run.pilots());
        }
        return new int[] {s.rooms.get(boat), runsOf(boat).size(), boatPlace(boat), boatFree(boat),
            rides}[what];
    }

    // ---- time and accounts

    private int pass(int hours) {
        ask(isIn(hours, 0, 48));
        askState(s.now + hours <= 999);
        s.now += hours;
        for (int end = 0; end <= s.now; end++) {
            for (Order o : s.orders) {
                if (o.state == 1 && o.end == end) {
                    finish(o);
                }
            }
        }
        int missed = 0;
        for (Order o : s.orders) {
            if (o.state == 0 && o.latest < s.now) {
                o.state = 3;
                missed++;
            }
        }
        return missed;
    }

    private void finish(Order o) {
        int[] pilot = s.pilots.get(o.pilot);
        o.state = 2;
        pilot[2]++;
        if (o.size == pilot[0]) {
            pilot[1]++;
            if (pilot[1] >= s.rules[2] && pilot[0] < 4) {
                pilot[0]++;
                pilot[1] = 0;
            }
        }
    }

    private int number(int what) {
        ask(isIn(what, 0, 13) || isIn(what, 20, 24) || isIn(what, 30, 41));
        int[] all = new int[42];
        for (Order o : s.orders) {
            all[o.state]++;
            all[9] += o.state == 1 || o.state == 2 ? o.size + 2 : 0;
            all[10] += o.putOffs;
        }
        all[4] = s.now;
        all[5] = s.pilots.size();
        all[6] = s.rooms.size();
        all[7] = s.runs.size();
        for (int k = 0; k < s.pilots.size(); k++) {
            for (Stint stint : s.plans.get(k)) {
                all[8] += stint.isTrip() ? 0 : 1;
            }
            all[11] += place(k, s.now) == -1 ? 1 : 0;
        }
        all[12] = changes.size();
        all[13] = input.length();
        System.arraycopy(s.rules, 0, all, 20, 5);
        System.arraycopy(s.heights, 0, all, 30, 12);
        return all[what];
    }

    private double meanWait() {
        double sum = 0;
        int count = 0;
        for (Order o : s.orders) {
            if (o.state == 1 || o.state == 2) {
                sum += o.begin - o.earliest;
                count++;
            }
        }
        if (count == 0) {
            throw new ArithmeticException();
        }
        return sum / count;
    }

    private float share(int pilot) {
        index(pilot, s.pilots.size());
        if (s.now == 0) {
            throw new ArithmeticException();
        }
        int hours = 0;
        for (int hour = 0; hour < s.now; hour++) {
            for (Stint stint : s.plans.get(pilot)) {
                hours += stint.isTrip() && isIn(hour, stint.begin(), stint.end() - 1) ? 1 : 0;
            }
        }
        return (float) hours / (float) s.now;
    }

    // ---- texts, undo, snapshots

    private int feed(char character) {
        askState(input.length() < 60);
        input += character;
        return input.length();
    }

    private int read() {
        String text = input;
        input = "";
        Matcher matcher = TEXT.matcher(text);
        if (!matcher.matches()) {
            fault = faultOf(text);
            throw new IllegalArgumentException();
        }
        String[] items = text.split(";");
        for (int k = 0; k < items.length; k++) {
            carryOutOrRefuse(items[k], k);
        }
        return items.length;
    }

    private void carryOutOrRefuse(String text, int k) {
        try {
            carryOut(text);
        } catch (Refused refused) {
            throw new Refused(refused.reason, k);
        } catch (RuntimeException other) {
            throw new Refused(20, k);
        }
    }

    private void carryOut(String text) {
        String[] parts = text.substring(text.charAt(0) < 'a' ? 2 : 1).split("[-@+]");
        int[] numbers = new int[parts.length];
        for (int k = 0; k < parts.length; k++) {
            numbers[k] = Integer.parseInt(parts[k]);
        }
        switch (text.charAt(0)) {
            case 's': serve(numbers[0]); break;
            case 'd': putOff(numbers[0], numbers[1]); break;
            case 'w': pass(numbers[0]); break;
            default: order(text.charAt(0) - '0', text.charAt(1) == 'o' ? 1 : 0, numbers[0],
                    numbers[1], numbers[2]);
        }
    }

    /** The first character with which what is read so far is no beginning of a text. */
    private static int faultOf(String text) {
        for (int k = 0; k < text.length(); k++) {
            Matcher matcher = TEXT.matcher(text.substring(0, k + 1));
            if (!matcher.matches() && !matcher.hitEnd()) {
                return k;
            }
        }
        return text.length();
    }

    private int undo() {
        askState(!changes.isEmpty());
        s = changes.removeLast();
        return changes.size();
    }

    private int restoreSnapshot() {
        askState(snapshot != null);
        s = snapshot.copy();
        changes.clear();
        return s.orders.size();
    }
}
