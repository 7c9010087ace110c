/** Long runs of mixed calls, each answer compared with that of PlainRoster. */
public final class ModelTest {
    private static final Check CHECK = new Check("ModelTest");
    private static final int RUNS = 300;
    private static final int CALLS = 500;

    private static final String[] CHANGING = {
        "order", "order", "order", "plan", "plan", "plan", "plan", "run", "run", "serve", "serve",
        "release", "release", "putOff", "pass", "pass", "rule", "tide", "addPilot", "addBoat",
        "read", "undo", "undo", "saveSnapshot", "restoreSnapshot", "serveAll", "pass"};
    private static final String[] ASKING = {
        "depth", "orderOf", "window", "hinders", "hinders", "serving", "serving", "urgent",
        "pilot", "planOf", "place", "boat", "number", "meanWait", "share", "faultPosition",
        "refusal"};
    private static final int[] EDGES = {
        -1, 0, 1, 16, 48, 49, 899, 900, 901, 999, 1000, Integer.MAX_VALUE, Integer.MIN_VALUE};

    private final PilotRoster roster = new PilotRoster();
    private final PlainRoster plain = new PlainRoster();
    private final StringBuilder calls = new StringBuilder();
    private final int run;
    private long seed;

    private ModelTest(int run) {
        this.run = run;
        this.seed = run * 1000003L + 17;
    }

    public static void main(String[] args) {
        int runs = args.length > 0 ? Integer.parseInt(args[0]) : RUNS;
        for (int run = 0; run < runs; run++) {
            new ModelTest(run).compareRun();
        }
        CHECK.end();
    }

    private int below(int bound) {
        seed = seed * 6364136223846793005L + 1442695040888963407L;
        return (int) ((seed >>> 33) % bound);
    }

    private void compareRun() {
        for (int k = below(6); k >= 0; k--) {
            compare("addPilot", 1 + below(4));
            compare("addBoat", 1 + below(4));
        }
        for (int k = 0; k < CALLS; k++) {
            boolean isSame = below(5) < 3 ? change() : ask(ASKING[below(ASKING.length)]);
            if (!isSame || (k % 60 == 0 && !sweep())) {
                return;
            }
        }
    }

    private int now() {
        return roster.number(4);
    }

    private int soon() {
        return below(8) == 0 ? EDGES[below(EDGES.length)] : now() + below(30) - 2;
    }

    private int orderNumber() {
        int orders = 0;
        for (int state = 0; state <= 3; state++) {
            orders += roster.number(state);
        }
        return below(20) == 0 ? EDGES[below(EDGES.length)] : below(orders + 1);
    }

    private int openOrder() {
        int open = roster.number(0);
        return open == 0 || below(4) == 0 ? orderNumber() : roster.urgent(below(open));
    }

    private int pilotNumber() {
        return below(20) == 0 ? EDGES[below(EDGES.length)] : below(roster.number(5) + 1);
    }

    private int boatNumber() {
        return below(20) == 0 ? EDGES[below(EDGES.length)] : below(3);
    }

    private int what(int bound) {
        return below(20) == 0 ? EDGES[below(EDGES.length)] : below(bound + 1);
    }

    private boolean change() {
        String name = CHANGING[below(CHANGING.length)];
        switch (name) {
            case "order":
                int earliest = below(6) == 0 ? soon() : now() + below(20);
                int latest = below(6) == 0 ? soon() : earliest + below(50);
                return compare(name, below(2) == 0 ? 1 : what(4), below(2),
                        below(4) == 0 ? what(30) : 1 + below(13), earliest, latest);
            case "plan": return plan(name, openOrder(), pilotNumber());
            case "run": return compare(name, boatNumber(), soon(), riders());
            case "serve": return compare(name, openOrder());
            case "release": return compare(name, orderNumber());
            case "putOff": return compare(name, openOrder(), what(48));
            case "pass": return compare(name, below(6) == 0 ? what(48) : below(4));
            case "rule": return compare(name, what(4), below(9) == 0 ? what(30) : below(13));
            case "tide": return compare(name, what(11), what(9));
            case "addPilot":
            case "addBoat": return compare(name, what(4));
            case "read": return feed() && compare(name);
            case "saveSnapshot":
            case "restoreSnapshot": return below(5) != 0 || compare(name);
            case "serveAll": return below(4) != 0 || compare(name);
            default: return compare(name);
        }
    }

    /** Mostly at an hour at which it could be possible. */
    private boolean plan(String name, int order, int pilot) {
        int hour = soon();
        if (below(4) != 0 && pilot >= 0 && pilot < roster.number(5)) {
            hour = Math.max(now(), roster.pilot(pilot, 4 + below(2))) + below(3);
        }
        return compare(name, order, pilot, hour);
    }

    private int riders() {
        int sets = 1 << roster.number(5);
        return below(20) == 0 ? EDGES[below(EDGES.length)] : below(3) == 0 ? 0 : below(sets);
    }

    private boolean ask(String name) {
        switch (name) {
            case "depth": return compare(name, soon());
            case "orderOf": return compare(name, orderNumber(), what(10));
            case "window": return compare(name, orderNumber(), soon());
            case "hinders": return plan(name, openOrder(), pilotNumber());
            case "serving": return compare(name, openOrder(), what(2));
            case "urgent": return compare(name, orderNumber());
            case "pilot": return compare(name, pilotNumber(), what(6));
            case "planOf": return compare(name, pilotNumber(), what(9), what(4));
            case "place": return place(pilotNumber(), soon());
            case "boat": return compare(name, boatNumber(), what(4));
            case "number": return compare(name, what(41));
            case "share": return compare(name, pilotNumber());
            case "refusal": return compare(name, below(2));
            default: return compare(name);
        }
    }

    private boolean place(int pilot, int hour) {
        return compare("place", pilot, hour) && compare("placeAgain", pilot, hour);
    }

    private boolean feed() {
        StringBuilder text = new StringBuilder();
        for (int k = below(4); k >= 0; k--) {
            text.append(text.length() == 0 ? "" : ";").append(item());
        }
        if (below(6) == 0) {
            String signs = "0123459iosdw@-+;x ";
            int at = below(text.length());
            text.setCharAt(at, signs.charAt(below(signs.length())));
            text.setLength(text.length() - below(Math.min(4, text.length())));
        }
        for (int k = 0; k < text.length(); k++) {
            if (!compare("feed", text.charAt(k))) {
                return false;
            }
        }
        return true;
    }

    private String item() {
        switch (below(4)) {
            case 0: return (1 + below(4)) + (below(2) == 0 ? "i" : "o") + below(16) + "@"
                    + (now() + below(9)) + "-" + (now() + 6 + below(40));
            case 1: return "s" + Math.floorMod(openOrder(), 1000);
            case 2: return "d" + Math.floorMod(openOrder(), 1000) + "+" + below(50);
            default: return "w" + below(below(3) == 0 ? 50 : 4);
        }
    }

    /** All that can be asked, at least once. */
    private boolean sweep() {
        boolean isSame = true;
        for (int what = 0; what <= 41; what++) {
            isSame = isSame && compare("number", what);
        }
        for (int order = 0; order < 16; order++) {
            for (int what = 0; what <= 10; what++) {
                isSame = isSame && compare("orderOf", order, what);
            }
            for (int what = 0; what <= 2; what++) {
                isSame = isSame && compare("serving", order, what);
            }
            isSame = isSame && compare("urgent", order);
        }
        for (int pilot = 0; pilot < 6; pilot++) {
            for (int what = 0; what <= 6; what++) {
                isSame = isSame && compare("pilot", pilot, what);
            }
            for (int k = 0; k < 8; k++) {
                isSame = isSame && compare("planOf", pilot, below(30), k % 5)
                        && place(pilot, now() + 4 * k - 10);
            }
            isSame = isSame && compare("share", pilot);
        }
        for (int what = 0; what < 15; what++) {
            isSame = isSame && compare("boat", what / 5, what % 5);
        }
        return isSame && compare("meanWait");
    }

    private boolean compare(String name, int... a) {
        Object due = plain.call(name, a);
        Object got;
        try {
            got = answer(name, a);
        } catch (RuntimeException thrown) {
            got = thrown.getClass();
        }
        calls.append(name).append(java.util.Arrays.toString(a)).append(' ');
        if (due.equals(got)) {
            CHECK.same(name, 0, 0);
            return true;
        }
        String all = calls.toString();
        CHECK.tell("run " + run + ": .. " + all.substring(Math.max(0, all.length() - 300))
                + " answered " + got + ", due is " + due);
        return false;
    }

    private Object answer(String name, int[] a) {
        switch (name) {
            case "rule": return roster.rule(a[0], a[1]);
            case "tide": return roster.tide(a[0], a[1]);
            case "depth": return roster.depth(a[0]);
            case "addPilot": return roster.addPilot(a[0]);
            case "addBoat": return roster.addBoat(a[0]);
            case "order": return roster.order(a[0], a[1] == 1, a[2], a[3], a[4]);
            case "orderOf": return roster.orderOf(a[0], a[1]);
            case "window": return roster.window(a[0], a[1]);
            case "hinders": return roster.hinders(a[0], a[1], a[2]);
            case "plan": return roster.plan(a[0], a[1], a[2]);
            case "run": return roster.run(a[0], a[1], a[2]);
            case "serving": return roster.serving(a[0], a[1]);
            case "serve": return roster.serve(a[0]);
            case "serveAll": return roster.serveAll();
            case "release": return roster.release(a[0]);
            case "putOff": return roster.putOff(a[0], a[1]);
            case "urgent": return roster.urgent(a[0]);
            case "pilot": return roster.pilot(a[0], a[1]);
            case "planOf": return roster.planOf(a[0], a[1], a[2]);
            case "place": return roster.place(a[0], a[1]);
            case "placeAgain": return roster.placeAgain(a[0], a[1]);
            case "boat": return roster.boat(a[0], a[1]);
            case "pass": return roster.pass(a[0]);
            case "number": return roster.number(a[0]);
            case "meanWait": return roster.meanWait();
            case "share": return roster.share(a[0]);
            case "feed": return roster.feed((char) a[0]);
            case "read": return roster.read();
            case "faultPosition": return roster.faultPosition();
            case "refusal": return roster.refusal(a[0] == 1);
            case "undo": return roster.undo();
            case "saveSnapshot": return roster.saveSnapshot();
            case "restoreSnapshot": return roster.restoreSnapshot();
            default: throw new AssertionError(name);
        }
    }
}
