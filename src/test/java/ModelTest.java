/**
 * Runs of mixed calls, as many as an object is for, each answer compared with that of
 * PlainRoster; behind some shorter ones all that can be asked is compared, too.
 */
public final class ModelTest {
    private static final Check CHECK = new Check("ModelTest");
    private static final int RUNS = 1500;
    private static final int SHORT = 200;

    private static final String[] CHANGING = {
        "order", "order", "order", "plan", "plan", "plan", "plan", "run", "run", "serve", "serve",
        "release", "release", "putOff", "pass", "pass", "rule", "tide", "addPilot", "addBoat",
        "read", "undo", "undo", "saveSnapshot", "restoreSnapshot", "serveAll", "pass"};
    private static final String[] ASKING = {
        "depth", "orderOf", "window", "hinders", "hinders", "serving", "serving", "urgent",
        "pilot", "planOf", "place", "boat", "number", "meanWait", "share", "faultPosition",
        "refusal"};
    private static final int[] EDGES = {
        -1, 0, 1, 16, 48, 49, 899, 900, 901, 999, 1000, Integer.MAX_VALUE, Integer.MIN_VALUE};

    private final Calls roster = new Calls();
    private final PlainRoster plain = new PlainRoster();
    private final StringBuilder calls = new StringBuilder();
    private final int run;
    private long seed;
    private boolean isWrong;

    private ModelTest(int run) {
        this.run = run;
        this.seed = run * 1000003L + 17;
    }

    public static void main(String[] args) {
        int runs = args.length > 0 ? Integer.parseInt(args[0]) : RUNS;
        for (int run = 0; run < runs; run++) {
            new ModelTest(run).compareRun();
        }
        CHECK.end();
    }

    private int below(int bound) {
        seed = seed * 6364136223846793005L + 1442695040888963407L;
        return (int) ((seed >>> 33) % bound);
    }

    private void compareRun() {
        for (int k = below(6); k >= 0; k--) {
            compare("addPilot", 1 + below(4));
            compare("addBoat", 1 + below(4));
        }
        boolean isShort = run % 25 == 0;
        int end = isShort ? Calls.MOST - SHORT : 0;
        boolean isSame = true;
        while (isSame && roster.left() > end) {
            isSame = below(5) < 3 ? change() : ask(ASKING[below(ASKING.length)]);
        }
        if (isShort && !isWrong) {
            compareWhole();
        }
    }

    /** Asked of the other one, so that no call of the roster's is spent. */
    private int told(String name, int... a) {
        return (Integer) plain.call(name, a);
    }

    private int now() {
        return told("number", 4);
    }

    private int soon() {
        return below(8) == 0 ? EDGES[below(EDGES.length)] : now() + below(30) - 2;
    }

    private int orderNumber() {
        int orders = 0;
        for (int state = 0; state <= 3; state++) {
            orders += told("number", state);
        }
        return below(20) == 0 ? EDGES[below(EDGES.length)] : below(orders + 1);
    }

    private int openOrder() {
        int open = told("number", 0);
        return open == 0 || below(4) == 0 ? orderNumber() : told("urgent", below(open));
    }

    private int pilotNumber() {
        return below(20) == 0 ? EDGES[below(EDGES.length)] : below(told("number", 5) + 1);
    }

    private int boatNumber() {
        return below(20) == 0 ? EDGES[below(EDGES.length)] : below(3);
    }

    private int what(int bound) {
        return below(20) == 0 ? EDGES[below(EDGES.length)] : below(bound + 1);
    }

    private boolean change() {
        String name = CHANGING[below(CHANGING.length)];
        switch (name) {
            case "order":
                int earliest = below(6) == 0 ? soon() : now() + below(20);
                int latest = below(6) == 0 ? soon() : earliest + below(50);
                return compare(name, below(2) == 0 ? 1 : what(4), below(2),
                        below(4) == 0 ? what(30) : 1 + below(13), earliest, latest);
            case "plan": return plan(name, openOrder(), pilotNumber());
            case "run": return compare(name, boatNumber(), soon(), riders());
            case "serve": return compare(name, openOrder());
            case "release": return compare(name, orderNumber());
            case "putOff": return compare(name, openOrder(), what(48));
            case "pass": return compare(name, below(6) == 0 ? what(48) : below(4));
            case "rule": return compare(name, what(4), below(9) == 0 ? what(30) : below(13));
            case "tide": return compare(name, what(11), what(9));
            case "addPilot":
            case "addBoat": return compare(name, what(4));
            case "read": return feed() && compare(name);
            case "saveSnapshot":
            case "restoreSnapshot": return below(5) != 0 || compare(name);
            case "serveAll": return below(4) != 0 || compare(name);
            default: return compare(name);
        }
    }

    /** Mostly at an hour at which it could be possible. */
    private boolean plan(String name, int order, int pilot) {
        int hour = soon();
        if (below(4) != 0 && pilot >= 0 && pilot < told("number", 5)) {
            hour = Math.max(now(), told("pilot", pilot, 4 + below(2))) + below(3);
        }
        return compare(name, order, pilot, hour);
    }

    private int riders() {
        int sets = 1 << told("number", 5);
        return below(20) == 0 ? EDGES[below(EDGES.length)] : below(3) == 0 ? 0 : below(sets);
    }

    private boolean ask(String name) {
        switch (name) {
            case "depth": return compare(name, soon());
            case "orderOf": return compare(name, orderNumber(), what(10));
            case "window": return compare(name, orderNumber(), soon());
            case "hinders": return plan(name, openOrder(), pilotNumber());
            case "serving": return compare(name, openOrder(), what(2));
            case "urgent": return compare(name, orderNumber());
            case "pilot": return compare(name, pilotNumber(), what(6));
            case "planOf": return compare(name, pilotNumber(), what(9), what(4));
            case "place": return place(pilotNumber(), soon());
            case "boat": return compare(name, boatNumber(), what(4));
            case "number": return compare(name, what(41));
            case "share": return compare(name, pilotNumber());
            case "refusal": return compare(name, below(2));
            default: return compare(name);
        }
    }

    private boolean place(int pilot, int hour) {
        return compare("place", pilot, hour) && compare("placeAgain", pilot, hour);
    }

    private boolean feed() {
        StringBuilder text = new StringBuilder();
        for (int k = below(4); k >= 0; k--) {
            text.append(text.length() == 0 ? "" : ";").append(item());
        }
        if (below(6) == 0) {
            String signs = "0123459iosdw@-+;x ";
            int at = below(text.length());
            text.setCharAt(at, signs.charAt(below(signs.length())));
            text.setLength(text.length() - below(Math.min(4, text.length())));
        }
        for (int k = 0; k < text.length(); k++) {
            if (!compare("feed", text.charAt(k))) {
                return false;
            }
        }
        return true;
    }

    private String item() {
        switch (below(4)) {
            case 0: return (1 + below(4)) + (below(2) == 0 ? "i" : "o") + below(16) + "@"
                    + (now() + below(9)) + "-" + (now() + 6 + below(40));
            case 1: return "s" + Math.floorMod(openOrder(), 1000);
            case 2: return "d" + Math.floorMod(openOrder(), 1000) + "+" + below(50);
            default: return "w" + below(below(3) == 0 ? 50 : 4);
        }
    }

    private boolean compare(String name, int... a) {
        if (roster.left() == 0) {
            return false;
        }
        Object due = plain.call(name, a);
        Object got = roster.call(name, a);
        calls.append(calls.length() == 0 ? "" : ", ").append(due instanceof Class ? "!" : "");
        calls.append(name);
        for (int number : a) {
            calls.append(' ').append(number);
        }
        if (due.equals(got)) {
            CHECK.same(name, 0, 0);
            return true;
        }
        isWrong = true;
        CHECK.tell("run " + run + ": .. " + tail() + " answered " + got + ", due is " + due);
        return false;
    }

    private void compareWhole() {
        Whole due = new Whole(calls.toString(), PlainRoster::new);
        Whole got = new Whole(calls.toString());
        CHECK.isTrue("run " + run + ": the state behind .. " + tail(),
                due.state().equals(got.state()));
        CHECK.isTrue("run " + run + ": the input behind .. " + tail(),
                due.input().equals(got.input()));
        CHECK.isTrue("run " + run + ": what is kept behind .. " + tail(),
                due.fault().equals(got.fault()) && due.refusal().equals(got.refusal()));
    }

    private String tail() {
        return calls.substring(Math.max(0, calls.length() - 300));
    }
}
