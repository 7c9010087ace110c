import java.util.NoSuchElementException;

/** Promises 10 to 18: planning. */
public final class PlanningTest {
    private static final Check CHECK = new Check("PlanningTest");

    public static void main(String[] args) {
        promise10HindersOfOrder();
        promise10HindersOfPilot();
        promise10HindersIsNoRefusal();
        promise11Plan();
        promise11PlanRefused();
        promise12Run();
        promise12RunWrong();
        promise12RunRefused();
        promise12AllFreeAheadOfAnyPlace();
        promise13ServingWithoutRide();
        promise13ServingWithRide();
        promise13ServingChoosesTheLowest();
        promise13ServingRestOfRide();
        promise13ServingWrong();
        promise14Serve();
        promise14ServeRefused();
        promise15ServeAll();
        promise16Release();
        promise16ReleaseRefused();
        promise17PutOff();
        promise17PutOffRefused();
        promise18Urgent();
        CHECK.end();
    }

    private static void refused(PilotRoster x, String call, int reason, Runnable body) {
        int changes = x.number(12);
        CHECK.fails(call, UnsupportedOperationException.class, body);
        CHECK.same("reason of " + call, reason, x.refusal(true));
        CHECK.same("number of " + call, 0, x.refusal(false));
        CHECK.same("changes behind " + call, changes, x.number(12));
    }

    private static void promise10HindersOfOrder() {
        PilotRoster x = new PilotRoster();
        x.addPilot(1);
        x.addPilot(4);
        x.order(2, true, 5, 3, 10);
        x.order(4, true, 12, 0, 20);
        CHECK.same("nothing hinders", 0, x.hinders(0, 1, 3));
        CHECK.same("nothing hinders at the latest hour", 0, x.hinders(0, 1, 10));
        CHECK.same("ahead of the earliest hour", 2, x.hinders(0, 1, 2));
        CHECK.same("behind the latest hour", 2, x.hinders(0, 1, 11));
        CHECK.same("at the last hour of all", 2, x.hinders(0, 1, 999));
        CHECK.same("too low a licence", 4, x.hinders(0, 0, 3));
        CHECK.same("too low a tide, and licence", 3, x.hinders(1, 0, 0));
        CHECK.same("too low a tide later in the trip", 3, x.hinders(1, 1, 6));
        CHECK.same("the tide is high", 0, x.hinders(1, 1, 5));
        x.pass(4);
        CHECK.same("ahead of now", 2, x.hinders(0, 1, 3));
        CHECK.same("now", 0, x.hinders(0, 1, 4));
        x.plan(0, 1, 4);
        CHECK.same("planned", 1, x.hinders(0, 1, 9));
        CHECK.same("planned, at no hour for it", 1, x.hinders(0, 0, 999));
        x.pass(17);
        CHECK.same("done", 1, x.hinders(0, 1, 21));
        CHECK.same("missed", 1, x.hinders(1, 1, 21));
        CHECK.fails("no order", IndexOutOfBoundsException.class, () -> x.hinders(2, 0, 0));
        CHECK.fails("no order", IndexOutOfBoundsException.class, () -> x.hinders(-1, 0, 0));
        CHECK.fails("no pilot", IndexOutOfBoundsException.class, () -> x.hinders(0, 2, 0));
        CHECK.fails("no pilot", IndexOutOfBoundsException.class, () -> x.hinders(0, -1, 0));
        CHECK.fails("no hour", IndexOutOfBoundsException.class, () -> x.hinders(0, 0, -1));
        CHECK.fails("no hour", IndexOutOfBoundsException.class, () -> x.hinders(0, 0, 1000));
    }

    private static void promise10HindersOfPilot() {
        PilotRoster x = new PilotRoster();
        x.addPilot(2);
        x.order(2, true, 5, 2, 10);
        x.order(1, true, 5, 0, 99);
        x.order(1, false, 5, 0, 99);
        x.order(3, false, 5, 0, 99);
        CHECK.same("an inward trip begins at sea", 6, x.hinders(2, 0, 5));
        CHECK.same("without a trip always rested", 0, x.hinders(1, 0, 0));
        CHECK.same("plan(0, 0, 2)", 6, x.plan(0, 0, 2));
        CHECK.same("not free", 5, x.hinders(2, 0, 5));
        CHECK.same("not free ahead of the trip", 5, x.hinders(1, 0, 0));
        CHECK.same("the licence goes ahead", 4, x.hinders(3, 0, 5));
        CHECK.same("elsewhere", 6, x.hinders(1, 0, 6));
        CHECK.same("not rested", 7, x.hinders(2, 0, 6));
        CHECK.same("not rested, an hour too early", 7, x.hinders(2, 0, 13));
        CHECK.same("rested", 0, x.hinders(2, 0, 14));
        x.rule(4, 0);
        CHECK.same("rested without the rest for night", 0, x.hinders(2, 0, 12));
        CHECK.same("not rested without it", 7, x.hinders(2, 0, 11));
        x.rule(0, 0);
        CHECK.same("no rest at all", 0, x.hinders(2, 0, 6));
        CHECK.same("no rest at all, but not free", 5, x.hinders(2, 0, 5));
    }

    private static void promise10HindersIsNoRefusal() {
        PilotRoster x = new PilotRoster();
        x.addPilot(1);
        x.order(2, true, 5, 2, 10);
        x.hinders(0, 0, 2);
        CHECK.fails("refusal of nothing", NoSuchElementException.class, () -> x.refusal(true));
        CHECK.same("open", 0, x.orderOf(0, 5));
        CHECK.same("changes", 2, x.number(12));
    }

    private static void promise11Plan() {
        PilotRoster x = new PilotRoster();
        x.addPilot(4);
        x.addPilot(4);
        x.order(4, true, 5, 0, 900);
        x.order(1, true, 5, 0, 900);
        CHECK.same("plan(0, 1, 900)", 906, x.plan(0, 1, 900));
        CHECK.same("plan(1, 0, 7)", 10, x.plan(1, 0, 7));
        CHECK.same("state", 1, x.orderOf(0, 5));
        CHECK.same("pilot", 1, x.orderOf(0, 6));
        CHECK.same("begin", 900, x.orderOf(0, 7));
        CHECK.same("end", 906, x.orderOf(0, 8));
        CHECK.same("trips of pilot 1", 1, x.pilot(1, 3));
        CHECK.same("pilot 1 ends at sea", 1, x.place(1, 906));
        CHECK.same("changes", 6, x.number(12));
    }

    private static void promise11PlanRefused() {
        PilotRoster x = new PilotRoster();
        x.addPilot(2);
        x.order(2, true, 5, 2, 10);
        x.order(1, true, 5, 0, 99);
        x.order(1, false, 12, 0, 99);
        x.order(3, false, 5, 0, 99);
        refused(x, "plan(0, 0, 1)", 2, () -> x.plan(0, 0, 1));
        refused(x, "plan(2, 0, 0)", 3, () -> x.plan(2, 0, 0));
        refused(x, "plan(3, 0, 0)", 4, () -> x.plan(3, 0, 0));
        refused(x, "plan(2, 0, 2)", 6, () -> x.plan(2, 0, 2));
        x.plan(0, 0, 2);
        refused(x, "plan(0, 0, 2)", 1, () -> x.plan(0, 0, 2));
        refused(x, "plan(2, 0, 5)", 5, () -> x.plan(2, 0, 5));
        refused(x, "plan(2, 0, 6)", 7, () -> x.plan(2, 0, 6));
        CHECK.same("open orders", 3, x.number(0));
        CHECK.same("the plan of pilot 0", 1, x.pilot(0, 3));
        CHECK.fails("no order", IndexOutOfBoundsException.class, () -> x.plan(4, 0, 0));
        CHECK.fails("no order", IndexOutOfBoundsException.class, () -> x.plan(-1, 0, 0));
        CHECK.fails("no pilot", IndexOutOfBoundsException.class, () -> x.plan(0, 1, 0));
        CHECK.fails("no pilot", IndexOutOfBoundsException.class, () -> x.plan(0, -1, 0));
        CHECK.fails("no hour", IndexOutOfBoundsException.class, () -> x.plan(0, 0, -1));
        CHECK.fails("no hour", IndexOutOfBoundsException.class, () -> x.plan(0, 0, 1000));
        CHECK.same("the reason stays", 7, x.refusal(true));
    }

    private static void promise12Run() {
        PilotRoster x = new PilotRoster();
        for (int k = 0; k < 6; k++) {
            x.addPilot(1);
        }
        x.addBoat(4);
        x.addBoat(1);
        CHECK.same("run(0, 3, 45)", 5, x.run(0, 3, 45));
        int[] places = {1, 0, 1, 1, 0, 1};
        for (int k = 0; k < places.length; k++) {
            CHECK.same("place of " + k, places[k], x.place(k, 5));
            CHECK.same("rides of " + k, places[k], x.pilot(k, 3));
        }
        CHECK.same("the boat is at sea", 1, x.boat(0, 2));
        CHECK.same("the other boat is not", 0, x.boat(1, 1));
        CHECK.same("an empty run back", 7, x.run(0, 5, 0));
        CHECK.same("the boat is back", 0, x.boat(0, 2));
        CHECK.same("a late run", 902, x.run(1, 900, 2));
        CHECK.same("runs", 3, x.number(7));
        CHECK.same("rides", 5, x.number(8));
        CHECK.same("changes", 8, x.number(12));
        x.rule(1, 6);
        CHECK.same("a long run", 906, x.run(0, 900, 16));
    }

    private static void promise12RunWrong() {
        PilotRoster x = new PilotRoster();
        x.addBoat(1);
        CHECK.fails("no boat", IndexOutOfBoundsException.class, () -> x.run(1, 0, 0));
        CHECK.fails("no boat", IndexOutOfBoundsException.class, () -> x.run(-1, 0, 0));
        CHECK.fails("no hour", IndexOutOfBoundsException.class, () -> x.run(0, -1, 0));
        CHECK.fails("no hour", IndexOutOfBoundsException.class, () -> x.run(0, 901, 0));
        CHECK.fails("no hour, no pilots", IndexOutOfBoundsException.class,
                () -> x.run(0, 901, 1));
        CHECK.fails("no pilots", IllegalArgumentException.class, () -> x.run(0, 0, 1));
        for (int k = 0; k < 6; k++) {
            x.addPilot(1);
        }
        CHECK.fails("no pilot 6", IllegalArgumentException.class, () -> x.run(0, 0, 64));
        CHECK.fails("a sign", IllegalArgumentException.class, () -> x.run(0, 0, -1));
        CHECK.fails("the least set", IllegalArgumentException.class,
                () -> x.run(0, 0, Integer.MIN_VALUE));
        x.pass(1);
        CHECK.fails("ahead of now, no pilots", IllegalArgumentException.class,
                () -> x.run(0, 0, 64));
        CHECK.fails("nothing refused", NoSuchElementException.class, () -> x.refusal(true));
        CHECK.same("runs", 0, x.number(7));
    }

    private static void promise12RunRefused() {
        PilotRoster x = new PilotRoster();
        x.addPilot(1);
        x.addPilot(1);
        x.addPilot(1);
        x.addBoat(2);
        x.addBoat(1);
        x.pass(3);
        refused(x, "a run ahead of now", 2, () -> x.run(0, 2, 7));
        x.run(0, 3, 3);
        refused(x, "a boat not free", 8, () -> x.run(0, 4, 7));
        refused(x, "too many pilots", 9, () -> x.run(0, 5, 7));
        refused(x, "too many pilots for the other boat", 9, () -> x.run(1, 4, 3));
        refused(x, "a pilot not free", 10, () -> x.run(1, 4, 1));
        refused(x, "a pilot elsewhere", 11, () -> x.run(1, 5, 1));
        refused(x, "another pilot elsewhere", 11, () -> x.run(0, 5, 5));
        CHECK.same("a run of who is there", 7, x.run(0, 5, 3));
        CHECK.same("runs", 2, x.number(7));
    }

    private static void promise12AllFreeAheadOfAnyPlace() {
        PilotRoster x = new PilotRoster();
        x.addPilot(1);
        x.addPilot(1);
        x.addBoat(4);
        x.addBoat(4);
        x.run(0, 0, 1);
        x.run(1, 4, 2);
        x.run(1, 6, 0);
        // Pilot 0 is at sea, pilot 1 under way until 6; boat 1 is in the harbour from 8 on.
        x.addBoat(4);
        refused(x, "elsewhere and not free", 10, () -> x.run(2, 5, 3));
        refused(x, "both elsewhere", 11, () -> x.run(2, 6, 3));
    }

    private static void promise13ServingWithoutRide() {
        PilotRoster x = new PilotRoster();
        x.addPilot(1);
        x.addPilot(3);
        x.addPilot(4);
        x.order(3, true, 12, 0, 20);
        CHECK.same("hour of the window", 2, x.serving(0, 0));
        CHECK.same("the lowest pilot", 1, x.serving(0, 1));
        CHECK.same("no boat", -1, x.serving(0, 2));
        CHECK.same("nothing changes", 0, x.orderOf(0, 5));
        CHECK.same("changes", 4, x.number(12));
        x.pass(4);
        CHECK.same("not ahead of now", 4, x.serving(0, 0));
        x.pass(3);
        CHECK.same("with the next tide", 14, x.serving(0, 0));
    }

    private static void promise13ServingWithRide() {
        PilotRoster x = new PilotRoster();
        x.addPilot(2);
        x.addBoat(1);
        x.order(2, false, 5, 1, 30);
        CHECK.same("behind a ride from now on", 2, x.serving(0, 0));
        CHECK.same("pilot", 0, x.serving(0, 1));
        CHECK.same("boat", 0, x.serving(0, 2));
        x.pass(1);
        CHECK.same("the ride begins now", 3, x.serving(0, 0));
        x.rule(1, 6);
        CHECK.same("a longer ride", 7, x.serving(0, 0));
        x.run(0, 1, 0);
        CHECK.fails("the boat is at sea", NoSuchElementException.class, () -> x.serving(0, 0));
        x.run(0, 9, 0);
        CHECK.same("the boat is back at 15", 21, x.serving(0, 0));
        x.rule(1, 1);
        CHECK.same("a short ride", 16, x.serving(0, 0));
        x.addBoat(1);
        CHECK.same("another boat", 2, x.serving(0, 0));
        CHECK.same("number of it", 1, x.serving(0, 2));
    }

    private static void promise13ServingChoosesTheLowest() {
        PilotRoster x = new PilotRoster();
        x.addPilot(1);
        x.addPilot(2);
        x.addPilot(2);
        x.addBoat(1);
        x.addBoat(1);
        x.run(0, 0, 4);
        x.order(2, false, 5, 2, 30);
        CHECK.same("an hour for both ways", 2, x.serving(0, 0));
        CHECK.same("the pilot at sea goes first", 2, x.serving(0, 1));
        CHECK.same("without a boat", -1, x.serving(0, 2));
        x.plan(0, 2, 2);
        x.order(2, false, 5, 4, 30);
        CHECK.same("behind a ride", 4, x.serving(1, 0));
        CHECK.same("the lowest pilot with the licence", 1, x.serving(1, 1));
        CHECK.same("the boat that is in the harbour", 1, x.serving(1, 2));
        x.run(0, 2, 0);
        CHECK.same("behind a ride of the other boat", 4, x.serving(1, 0));
        CHECK.same("still boat 1", 1, x.serving(1, 2));
        x.pass(2);
        x.pass(2);
        CHECK.same("both boats", 6, x.serving(1, 0));
        CHECK.same("the lowest boat", 0, x.serving(1, 2));
    }

    private static void promise13ServingRestOfRide() {
        PilotRoster x = new PilotRoster();
        x.addPilot(1);
        x.addBoat(1);
        x.order(1, true, 5, 6, 6);
        x.order(1, true, 5, 6, 90);
        x.plan(0, 0, 6);
        // Free at sea from 9 on, rested from 15 on; a ride needs a boat at sea.
        CHECK.fails("no boat at sea", NoSuchElementException.class, () -> x.serving(1, 0));
        x.run(0, 6, 0);
        CHECK.same("rested when the ride ends", 15, x.serving(1, 0));
        x.rule(0, 1);
        CHECK.same("free when the ride begins", 11, x.serving(1, 0));
        x.rule(0, 24);
        CHECK.same("a long rest", 33, x.serving(1, 0));
    }

    private static void promise13ServingWrong() {
        PilotRoster x = new PilotRoster();
        CHECK.fails("no order", IndexOutOfBoundsException.class, () -> x.serving(0, 3));
        x.order(1, true, 5, 0, 9);
        CHECK.fails("no pilot", NoSuchElementException.class, () -> x.serving(0, 0));
        CHECK.fails("out of range, no pilot", IllegalArgumentException.class,
                () -> x.serving(0, 3));
        x.addPilot(1);
        CHECK.same("a pilot", 0, x.serving(0, 0));
        CHECK.fails("out of range", IllegalArgumentException.class, () -> x.serving(0, 3));
        CHECK.fails("out of range", IllegalArgumentException.class, () -> x.serving(0, -1));
        CHECK.fails("no order", IndexOutOfBoundsException.class, () -> x.serving(1, 0));
        CHECK.fails("no order", IndexOutOfBoundsException.class, () -> x.serving(-1, 0));
        x.serve(0);
        CHECK.fails("planned", NoSuchElementException.class, () -> x.serving(0, 0));
        CHECK.fails("nothing refused", NoSuchElementException.class, () -> x.refusal(true));
    }

    private static void promise14Serve() {
        PilotRoster x = new PilotRoster();
        x.addPilot(2);
        x.addBoat(3);
        x.order(2, false, 5, 4, 30);
        CHECK.same("serve(0)", 4, x.serve(0));
        int[][] plan = {{1, 2, 4, 0, 1}, {0, 4, 8, 0, 0}};
        for (int i = 0; i < plan.length; i++) {
            for (int what = 0; what < 5; what++) {
                CHECK.same("planOf(0, " + i + ", " + what + ")", plan[i][what],
                        x.planOf(0, i, what));
            }
        }
        CHECK.same("the boat is at sea", 1, x.boat(0, 2));
        CHECK.same("the boat is free", 4, x.boat(0, 3));
        CHECK.same("planned", 1, x.orderOf(0, 5));
        CHECK.same("changes", 4, x.number(12));
        x.order(1, true, 5, 4, 30);
        CHECK.same("without a ride, behind the rest", 16, x.serve(1));
        CHECK.same("runs", 1, x.number(7));
        CHECK.same("changes", 6, x.number(12));
    }

    private static void promise14ServeRefused() {
        PilotRoster x = new PilotRoster();
        CHECK.fails("no order", IndexOutOfBoundsException.class, () -> x.serve(0));
        x.order(1, true, 5, 0, 9);
        refused(x, "serve without pilots", 12, () -> x.serve(0));
        x.addPilot(1);
        x.addBoat(1);
        x.order(2, true, 5, 0, 9);
        refused(x, "serve beyond the licence", 12, () -> x.serve(1));
        x.order(1, true, 17, 0, 9);
        refused(x, "serve without a window", 12, () -> x.serve(2));
        x.order(1, false, 5, 0, 1);
        refused(x, "serve without time for a ride", 12, () -> x.serve(3));
        x.serve(0);
        refused(x, "serve again", 1, () -> x.serve(0));
        x.pass(10);
        refused(x, "serve what is done", 1, () -> x.serve(0));
        refused(x, "serve what is missed", 1, () -> x.serve(1));
        CHECK.fails("no order", IndexOutOfBoundsException.class, () -> x.serve(4));
        CHECK.fails("no order", IndexOutOfBoundsException.class, () -> x.serve(-1));
    }

    private static void promise15ServeAll() {
        PilotRoster x = new PilotRoster();
        CHECK.same("nothing to serve", 0, x.serveAll());
        CHECK.same("a change all the same", 1, x.number(12));
        x.addPilot(1);
        x.order(1, true, 5, 0, 50);
        x.order(1, true, 5, 3, 20);
        x.order(2, true, 5, 0, 10);
        x.order(1, true, 5, 2, 20);
        // Order 2 is the most urgent one, but beyond the licence; then 3, ahead of 1 and 0.
        CHECK.same("one served", 1, x.serveAll());
        CHECK.same("by urgency", 1, x.orderOf(3, 5));
        CHECK.same("at its hour", 2, x.orderOf(3, 7));
        x.addBoat(1);
        x.run(0, 2, 0);
        // The pilot is at sea from 5 on, rested from 13 on: a ride from 11 on, order 1 at 13.
        CHECK.same("one more served", 1, x.serveAll());
        CHECK.same("the next one by urgency", 13, x.orderOf(1, 7));
        CHECK.fails("nothing refused", NoSuchElementException.class, () -> x.refusal(true));
        CHECK.same("open orders", 2, x.number(0));
        CHECK.same("changes", 8, x.number(12));
        PilotRoster y = new PilotRoster();
        for (int k = 0; k < 6; k++) {
            y.addPilot(4);
        }
        for (int k = 0; k < 16; k++) {
            y.order(1, true, 5, 0, 99);
        }
        CHECK.same("as many as there are pilots", 6, y.serveAll());
        for (int k = 0; k < 16; k++) {
            CHECK.same("pilot of order " + k, k < 6 ? k : -1, y.orderOf(k, 6));
        }
    }

    private static void promise16Release() {
        PilotRoster x = new PilotRoster();
        x.addPilot(1);
        x.addPilot(2);
        x.addBoat(1);
        x.order(2, false, 5, 4, 30);
        x.serve(0);
        CHECK.same("release(0)", 1, x.release(0));
        int[] open = {0, -1, -1, -1, 0};
        for (int k = 0; k < open.length; k++) {
            CHECK.same("open " + (5 + k), open[k], x.orderOf(0, 5 + k));
        }
        CHECK.same("the ride stays", 1, x.pilot(1, 3));
        CHECK.same("the ride stays", 1, x.planOf(1, 0, 0));
        CHECK.same("the run stays", 1, x.boat(0, 1));
        CHECK.same("the pilot is free from the ride on", 4, x.pilot(1, 4));
        CHECK.same("and rested", 0, x.pilot(1, 5));
        CHECK.same("served again without a ride", 4, x.serve(0));
        CHECK.same("no other run", 1, x.number(7));
        CHECK.same("changes", 7, x.number(12));
    }

    private static void promise16ReleaseRefused() {
        PilotRoster x = new PilotRoster();
        x.addPilot(1);
        x.addBoat(1);
        x.order(1, true, 5, 4, 30);
        x.order(1, false, 5, 4, 90);
        x.order(1, true, 5, 4, 4);
        refused(x, "release of an open order", 13, () -> x.release(0));
        x.plan(0, 0, 4);
        x.plan(1, 0, 20);
        refused(x, "release of a trip with another behind it", 14, () -> x.release(0));
        CHECK.same("release of the last one", 0, x.release(1));
        CHECK.same("release of the last one, then", 0, x.release(0));
        x.plan(0, 0, 4);
        x.run(0, 4, 0);
        x.run(0, 12, 1);
        refused(x, "release of a trip with a ride behind it", 14, () -> x.release(0));
        x.pass(3);
        refused(x, "release ahead of the trip", 14, () -> x.release(0));
        x.pass(1);
        refused(x, "release of a trip that begins now", 13, () -> x.release(0));
        x.pass(1);
        refused(x, "release of a trip that has begun", 13, () -> x.release(0));
        refused(x, "release of a missed order", 13, () -> x.release(2));
        x.pass(5);
        refused(x, "release of an order that is done", 13, () -> x.release(0));
        CHECK.fails("no order", IndexOutOfBoundsException.class, () -> x.release(3));
        CHECK.fails("no order", IndexOutOfBoundsException.class, () -> x.release(-1));
    }

    private static void promise17PutOff() {
        PilotRoster x = new PilotRoster();
        x.order(1, true, 5, 4, 30);
        x.order(1, true, 5, 4, 853);
        x.order(1, true, 5, 4, 900);
        CHECK.same("by an hour", 31, x.putOff(0, 1));
        CHECK.same("by 48 hours", 79, x.putOff(0, 48));
        CHECK.same("to 900", 900, x.putOff(1, 48));
        CHECK.same("not beyond 900", 900, x.putOff(1, 1));
        CHECK.same("counts at 900", 900, x.putOff(2, 5));
        CHECK.same("latest", 79, x.orderOf(0, 4));
        CHECK.same("how often", 2, x.orderOf(1, 9));
        CHECK.same("how often at 900", 1, x.orderOf(2, 9));
        CHECK.same("how often in all", 5, x.number(10));
        CHECK.same("changes", 8, x.number(12));
    }

    private static void promise17PutOffRefused() {
        PilotRoster x = new PilotRoster();
        x.addPilot(1);
        x.order(1, true, 5, 4, 900);
        CHECK.fails("no hours", IllegalArgumentException.class, () -> x.putOff(0, 0));
        CHECK.fails("too many hours", IllegalArgumentException.class, () -> x.putOff(0, 49));
        CHECK.fails("no order", IndexOutOfBoundsException.class, () -> x.putOff(1, 1));
        CHECK.fails("no order", IndexOutOfBoundsException.class, () -> x.putOff(-1, 0));
        x.putOff(0, 48);
        x.putOff(0, 48);
        refused(x, "a third time", 15, () -> x.putOff(0, 1));
        CHECK.fails("a third time, no hours", IllegalArgumentException.class,
                () -> x.putOff(0, 0));
        x.serve(0);
        refused(x, "a planned order", 1, () -> x.putOff(0, 1));
        CHECK.same("how often", 2, x.orderOf(0, 9));
    }

    private static void promise18Urgent() {
        PilotRoster x = new PilotRoster();
        CHECK.fails("no orders", NoSuchElementException.class, () -> x.urgent(0));
        int[][] hours = {{5, 40}, {5, 30}, {4, 40}, {9, 20}, {5, 30}, {0, 10}};
        for (int[] row : hours) {
            x.order(1, true, 5, row[0], row[1]);
        }
        int[] urgent = {5, 3, 1, 4, 2, 0};
        for (int i = 0; i < urgent.length; i++) {
            CHECK.same("urgent(" + i + ")", urgent[i], x.urgent(i));
        }
        CHECK.fails("behind the last place", NoSuchElementException.class, () -> x.urgent(6));
        CHECK.fails("ahead of the first place", NoSuchElementException.class, () -> x.urgent(-1));
        x.addPilot(1);
        x.plan(3, 0, 9);
        x.pass(11);
        x.putOff(1, 30);
        int[] left = {4, 2, 0, 1};
        for (int i = 0; i < left.length; i++) {
            CHECK.same("urgent(" + i + ") then", left[i], x.urgent(i));
        }
        CHECK.fails("behind the last place", NoSuchElementException.class, () -> x.urgent(4));
    }
}
