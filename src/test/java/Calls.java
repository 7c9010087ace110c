/** A new PilotRoster on which calls are made by their names, at most those that it is for. */
final class Calls implements Answering {
    static final int MOST = 512;

    private final PilotRoster roster = new PilotRoster();
    private int made;

    /** How many calls are left. */
    int left() {
        return MOST - made;
    }

    @Override
    public Object call(String name, int... a) {
        if (made == MOST) {
            throw new AssertionError("a test makes more calls than an object is for");
        }
        made++;
        try {
            return answer(name, a);
        } catch (RuntimeException thrown) {
            return thrown.getClass();
        }
    }

    private Object answer(String name, int[] a) {
        switch (name) {
            case "rule": return roster.rule(a[0], a[1]);
            case "tide": return roster.tide(a[0], a[1]);
            case "depth": return roster.depth(a[0]);
            case "addPilot": return roster.addPilot(a[0]);
            case "addBoat": return roster.addBoat(a[0]);
            case "order": return roster.order(a[0], a[1] != 0, a[2], a[3], a[4]);
            case "orderOf": return roster.orderOf(a[0], a[1]);
            case "window": return roster.window(a[0], a[1]);
            case "hinders": return roster.hinders(a[0], a[1], a[2]);
            case "plan": return roster.plan(a[0], a[1], a[2]);
            case "run": return roster.run(a[0], a[1], a[2]);
            case "serving": return roster.serving(a[0], a[1]);
            case "serve": return roster.serve(a[0]);
            case "serveAll": return roster.serveAll();
            case "release": return roster.release(a[0]);
            case "putOff": return roster.putOff(a[0], a[1]);
            case "urgent": return roster.urgent(a[0]);
            case "pilot": return roster.pilot(a[0], a[1]);
            case "planOf": return roster.planOf(a[0], a[1], a[2]);
            case "place": return roster.place(a[0], a[1]);
            case "placeAgain": return roster.placeAgain(a[0], a[1]);
            case "boat": return roster.boat(a[0], a[1]);
            case "pass": return roster.pass(a[0]);
            case "number": return roster.number(a[0]);
            case "meanWait": return roster.meanWait();
            case "share": return roster.share(a[0]);
            case "feed": return roster.feed((char) a[0]);
            case "read": return roster.read();
            case "faultPosition": return roster.faultPosition();
            case "refusal": return roster.refusal(a[0] != 0);
            case "undo": return roster.undo();
            case "saveSnapshot": return roster.saveSnapshot();
            case "restoreSnapshot": return roster.restoreSnapshot();
            default: throw new AssertionError("no call " + name);
        }
    }
}
