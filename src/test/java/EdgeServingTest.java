import java.util.NoSuchElementException;

/**
 * The boundaries of promises 13 to 18, and of the terms Serving and Urgency: for each the last
 * case on this side and the first one beyond it.
 */
public final class EdgeServingTest {
    private static final Check CHECK = new Check("EdgeServingTest");
    private static final Class<IllegalArgumentException> WRONG = IllegalArgumentException.class;
    private static final Class<IndexOutOfBoundsException> NO_SUCH =
            IndexOutOfBoundsException.class;
    private static final Class<NoSuchElementException> NONE = NoSuchElementException.class;

    /** Without any rest. */
    private static final String AWAKE = "rule 0 0, rule 4 0, ";

    public static void main(String[] args) {
        promise13Order();
        promise13What();
        promise13NotOpen();
        promise13NotAheadOfNow();
        promise13FirstHourOfTheWindow();
        promise13UpToTheLatestHour();
        promise13UpToHour900();
        promise13PilotIsRested();
        promise13Licence();
        promise13RideFromNowOn();
        promise13RideOfOneHourAndOfSix();
        promise13RideJustAheadOfTheTrip();
        promise13BoatIsFree();
        promise13BoatIsThere();
        promise13PilotIsFreeAheadOfTheRide();
        promise13PilotIsAtTheBoat();
        promise13RestAtTheHourOfTheTrip();
        promise13WindowBehindARide();
        promise13FirstWayIfPossible();
        promise13SecondWayIfEarlier();
        promise13LowestPilot();
        promise13LowestPilotBehindARide();
        promise13LowestBoat();
        promise14Order();
        promise14ReasonOneAheadOfTwelve();
        promise14PlansTheRideAndTheTrip();
        promise15NoOpenOrder();
        promise15AllOrNoneServed();
        promise15AsFarAsTheyCanBeServed();
        promise15ByUrgency();
        promise15NothingIsRefused();
        promise16Order();
        promise16NotPlanned();
        promise16TripHasBegun();
        promise16NotTheLast();
        promise16BegunAheadOfNotTheLast();
        promise16OpenAgain();
        promise16RideStays();
        promise17Order();
        promise17Hours();
        promise17AtMost900();
        promise17TwiceAlready();
        promise17NotOpen();
        promise17FirstException();
        promise18Place();
        promise18Ties();
        promise18OpenOrdersAlone();
        CHECK.end();
    }

    private static Edge edge(String setup) {
        return Edge.of(CHECK, setup);
    }

    /** The order is served like this; serving leaves all as it was. */
    private static void way(Edge edge, int order, int hour, int pilot, int boat) {
        edge.asks("serving " + order + " 0", hour);
        edge.asks("serving " + order + " 1", pilot);
        edge.asks("serving " + order + " 2", boat);
        edge.answers("serve " + order, hour);
        Edge served = edge.after("serve " + order);
        served.answers("orderOf " + order + " 5", 1);
        served.answers("orderOf " + order + " 6", pilot);
        served.answers("orderOf " + order + " 7", hour);
        if (boat >= 0) {
            served.answers("boat " + boat + " 3", hour);
        }
    }

    /** There is no way to serve the open order. */
    private static void noWay(Edge edge, int order) {
        edge.answers("orderOf " + order + " 5", 0);
        edge.fails("serving " + order + " 0", NONE);
        edge.fails("serving " + order + " 2", NONE);
        edge.refuses("serve " + order, 12);
    }

    // ---- promise 13

    private static void promise13Order() {
        edge("addPilot 1").fails("serving 0 0", NO_SUCH);
        Edge full = edge("addPilot 1, 16*order 1 1 5 0 9");
        full.asks("serving 0 0", 0).asks("serving 15 0", 0);
        full.fails("serving -1 0", NO_SUCH).fails("serving 16 0", NO_SUCH);
        full.fails("serving min 0", NO_SUCH).fails("serving max 0", NO_SUCH);
        full.fails("serving 16 3", NO_SUCH).fails("serving -1 -1", NO_SUCH);
    }

    /** What is out of range goes ahead of an order that cannot be served. */
    private static void promise13What() {
        Edge edge = edge("addPilot 1, order 1 1 5 0 9");
        edge.fails("serving 0 -1", WRONG).asks("serving 0 0", 0).asks("serving 0 1", 0);
        edge.asks("serving 0 2", -1).fails("serving 0 3", WRONG);
        edge.fails("serving 0 min", WRONG).fails("serving 0 max", WRONG);
        Edge none = edge("order 1 1 5 0 9");
        none.fails("serving 0 -1", WRONG).fails("serving 0 3", WRONG);
        none.fails("serving 0 0", NONE).fails("serving 0 2", NONE);
    }

    /** "if it is not open": each state but open. */
    private static void promise13NotOpen() {
        Edge open = edge("2*addPilot 1, order 1 1 5 0 9");
        way(open, 0, 0, 0, -1);
        for (String more : new String[] {"plan 0 0 3", "plan 0 0 3, pass 6", "pass 10"}) {
            Edge edge = open.after(more);
            edge.fails("serving 0 0", NONE).refuses("serve 0", 1);
        }
        way(open.after("plan 0 0 3, release 0"), 0, 0, 0, -1);
    }

    /** "the earliest hour of its window, not ahead of now". */
    private static void promise13NotAheadOfNow() {
        Edge edge = edge("addPilot 1, order 1 1 5 2 9");
        way(edge, 0, 2, 0, -1);
        way(edge.after("pass 2"), 0, 2, 0, -1);
        way(edge.after("pass 3"), 0, 3, 0, -1);
        way(edge.after("pass 9"), 0, 9, 0, -1);
        edge.after("pass 10").fails("serving 0 0", NONE).refuses("serve 0", 1);
    }

    private static void promise13FirstHourOfTheWindow() {
        Edge edge = edge("addPilot 1, order 1 1 11 0 21");
        way(edge, 0, 1, 0, -1);
        way(edge.after("pass 9"), 0, 9, 0, -1);
        way(edge.after("pass 10"), 0, 13, 0, -1);
        noWay(edge("addPilot 1, order 1 1 11 10 12"), 0);
        way(edge("addPilot 1, order 1 1 11 10 13"), 0, 13, 0, -1);
    }

    /** The pilot is free at sea from 3 on. */
    private static void promise13UpToTheLatestHour() {
        String setup = AWAKE + "addPilot 1, order 1 1 5 0 0, plan 0 0 0, order 1 0 5 0 ";
        noWay(edge(setup + "2"), 1);
        way(edge(setup + "3"), 1, 3, 0, -1);
    }

    private static void promise13UpToHour900() {
        way(edge("addPilot 1, order 1 1 5 900 900"), 0, 900, 0, -1);
        way(edge("addPilot 1, addBoat 1, order 1 0 5 900 900"), 0, 900, 0, 0);
        String setup = AWAKE + "addPilot 2, order 1 1 5 897 897, order 2 1 5 897 897, "
                + "order 1 0 5 0 900, ";
        way(edge(setup + "plan 0 0 897"), 2, 900, 0, -1);
        noWay(edge(setup + "plan 1 0 897"), 2);
        Edge now = edge("18*pass 48, pass 36, addPilot 1, addBoat 1, order 1 1 5 900 900, "
                + "order 1 0 5 900 900");
        way(now, 0, 900, 0, -1);
        noWay(now, 1);
    }

    /** A trip from 6 to 9, rested from 15 on. */
    private static void promise13PilotIsRested() {
        String setup = "addPilot 1, order 1 1 5 6 6, plan 0 0 6, order 1 0 5 0 ";
        noWay(edge(setup + "14"), 1);
        way(edge(setup + "15"), 1, 15, 0, -1);
    }

    private static void promise13Licence() {
        for (int size = 1; size <= 4; size++) {
            String orders = ", addBoat 1, order " + size + " 1 5 0 9, order " + size
                    + " 0 5 0 9";
            Edge enough = edge("addPilot " + size + orders);
            way(enough, 0, 0, 0, -1);
            way(enough, 1, 2, 0, 0);
            if (size > 1) {
                Edge less = edge("addPilot " + (size - 1) + orders);
                noWay(less, 0);
                noWay(less, 1);
            }
        }
    }

    /** The run begins now at the earliest. */
    private static void promise13RideFromNowOn() {
        String setup = "addPilot 1, addBoat 1, order 1 0 5 0 ";
        noWay(edge(setup + "1"), 0);
        way(edge(setup + "2"), 0, 2, 0, 0);
        String later = "addPilot 1, addBoat 1, pass 5, order 1 0 5 5 ";
        noWay(edge(later + "6"), 0);
        way(edge(later + "7"), 0, 7, 0, 0);
    }

    private static void promise13RideOfOneHourAndOfSix() {
        String one = "rule 1 1, addPilot 1, addBoat 1, order 1 0 5 0 ";
        noWay(edge(one + "0"), 0);
        way(edge(one + "1"), 0, 1, 0, 0);
        String six = "rule 1 6, addPilot 1, addBoat 1, order 1 0 5 0 ";
        noWay(edge(six + "5"), 0);
        way(edge(six + "6"), 0, 6, 0, 0);
    }

    /** "behind a ride that ends at this hour". */
    private static void promise13RideJustAheadOfTheTrip() {
        Edge edge = edge("addPilot 1, addBoat 1, order 1 0 5 30 40");
        way(edge, 0, 30, 0, 0);
        Edge served = edge.after("serve 0");
        served.answers("planOf 0 0 0", 1).answers("planOf 0 0 1", 28);
        served.answers("planOf 0 0 2", 30).answers("planOf 0 1 1", 30);
        served.answers("place 0 27", 0).answers("place 0 28", -1).answers("place 0 30", -1);
    }

    /** The boat is back in the harbour, and free from 4 on. */
    private static void promise13BoatIsFree() {
        String setup = "addPilot 1, addBoat 1, run 0 0 0, run 0 2 0, order 1 0 5 0 ";
        noWay(edge(setup + "5"), 0);
        way(edge(setup + "6"), 0, 6, 0, 0);
    }

    private static void promise13BoatIsThere() {
        Edge away = edge("addPilot 1, addBoat 1, run 0 0 0, order 1 0 5 0 900");
        noWay(away, 0);
        way(away.after("run 0 2 0"), 0, 6, 0, 0);
        noWay(edge("addPilot 1, order 1 0 5 0 900"), 0);
    }

    /** "whether the pilot .. [is] free at the beginning of the run": at sea from 3 on. */
    private static void promise13PilotIsFreeAheadOfTheRide() {
        String setup = AWAKE + "addPilot 1, addBoat 1, order 1 1 5 0 0, plan 0 0 0, run 0 0 0, "
                + "order 1 1 5 0 ";
        noWay(edge(setup + "4"), 1);
        way(edge(setup + "5"), 1, 5, 0, 0);
    }

    /** "the place .. at the beginning of the run": a pilot at sea, a boat in the harbour. */
    private static void promise13PilotIsAtTheBoat() {
        Edge edge = edge(AWAKE + "addPilot 1, addBoat 1, order 1 1 5 0 0, plan 0 0 0, "
                + "order 1 1 5 0 900");
        noWay(edge, 1);
        way(edge.after("run 0 0 0"), 1, 5, 0, 0);
        // A ride that leads away from where the trip begins.
        Edge away = edge("addPilot 1, addBoat 1, order 1 1 5 6 6, plan 0 0 6, run 0 0 0, "
                + "order 1 0 5 0 14");
        noWay(away, 1);
    }

    /** "the rest is asked at the hour of the trip": the earliest one without it is 5. */
    private static void promise13RestAtTheHourOfTheTrip() {
        String setup = "rule 4 0, addPilot 1, addBoat 1, order 1 1 5 0 0, plan 0 0 0, run 0 0 0, "
                + "order 1 1 5 0 ";
        way(edge(setup + "5, rule 0 1"), 1, 5, 0, 0);
        way(edge(setup + "5, rule 0 2"), 1, 5, 0, 0);
        noWay(edge(setup + "5, rule 0 3"), 1);
        way(edge(setup + "6, rule 0 3"), 1, 6, 0, 0);
        Edge served = edge(setup + "6, rule 0 3, serve 1");
        served.answers("planOf 0 1 1", 4).answers("planOf 0 1 2", 6);
    }

    /** Deep enough from 4 to 6 and from 16 to 18. */
    private static void promise13WindowBehindARide() {
        String setup = "addPilot 1, addBoat 1, order 1 0 14 0 17, ";
        way(edge(setup + "rule 1 2"), 0, 4, 0, 0);
        way(edge(setup + "rule 1 6"), 0, 6, 0, 0);
        way(edge(setup + "rule 1 6, pass 1"), 0, 16, 0, 0);
        way(edge(setup + "rule 1 6, pass 11"), 0, 17, 0, 0);
        noWay(edge(setup + "rule 1 6, pass 12"), 0);
    }

    /** Pilot 1 is at sea from 2 on; the boat is back in the harbour from 4 on. */
    private static void promise13FirstWayIfPossible() {
        String setup = "2*addPilot 1, addBoat 1, run 0 0 2, run 0 2 0, order 1 0 5 6 30";
        way(edge(setup), 0, 6, 1, -1);
        way(edge(setup + ", pass 7"), 0, 7, 1, -1);
        way(edge("addPilot 1, addBoat 1, run 0 0 0, run 0 2 0, order 1 0 5 6 30"), 0, 6, 0, 0);
    }

    /** Pilot 1 is at sea from 3 on, but rested from 11 on; a ride can end from 2 on. */
    private static void promise13SecondWayIfEarlier() {
        String setup = "2*addPilot 1, addBoat 1, order 1 1 5 0 0, plan 0 1 0, order 1 0 5 ";
        way(edge(setup + "0 90"), 1, 2, 0, 0);
        way(edge(setup + "10 90"), 1, 10, 0, 0);
        way(edge(setup + "11 90"), 1, 11, 1, -1);
    }

    /** Pilot 0 is back in the harbour from 4 on. */
    private static void promise13LowestPilot() {
        way(edge("3*addPilot 1, order 1 1 5 0 9"), 0, 0, 0, -1);
        way(edge("addPilot 1, 2*addPilot 2, order 2 1 5 0 9"), 0, 0, 1, -1);
        String setup = "2*addPilot 1, addBoat 1, run 0 0 1, run 0 2 1, order 1 1 5 ";
        way(edge(setup + "0 9"), 0, 0, 1, -1);
        way(edge(setup + "3 9"), 0, 3, 1, -1);
        way(edge(setup + "4 9"), 0, 4, 0, -1);
        way(edge("5*addPilot 1, addPilot 2, order 2 1 5 0 9"), 0, 0, 5, -1);
    }

    /** Pilot 0 and boat 0 are back in the harbour from 4 on. */
    private static void promise13LowestPilotBehindARide() {
        String setup = "2*addPilot 1, 2*addBoat 1, run 0 0 1, run 0 2 1, order 1 0 5 ";
        way(edge(setup + "5 90"), 0, 5, 1, 1);
        way(edge(setup + "6 90"), 0, 6, 0, 0);
        way(edge("5*addPilot 1, addPilot 2, addBoat 1, order 2 0 5 0 9"), 0, 2, 5, 0);
    }

    /** Boat 0 is back in the harbour from 4 on. */
    private static void promise13LowestBoat() {
        String setup = "addPilot 1, 3*addBoat 1, run 0 0 0, run 0 2 0, order 1 0 5 ";
        way(edge(setup + "5 90"), 0, 5, 0, 1);
        way(edge(setup + "6 90"), 0, 6, 0, 0);
        way(edge(setup + "5 90, run 1 0 0"), 0, 5, 0, 2);
    }

    // ---- promise 14

    private static void promise14Order() {
        edge("addPilot 1").fails("serve 0", NO_SUCH);
        Edge full = edge("addPilot 1, 16*order 1 1 5 0 9");
        way(full, 0, 0, 0, -1);
        way(full, 15, 0, 0, -1);
        full.fails("serve -1", NO_SUCH).fails("serve 16", NO_SUCH);
        full.fails("serve min", NO_SUCH).fails("serve max", NO_SUCH);
    }

    /** "for the reason 1 or 12": without pilots there is no way, whatever the state. */
    private static void promise14ReasonOneAheadOfTwelve() {
        Edge edge = edge("order 1 1 5 0 9");
        edge.refuses("serve 0", 12);
        edge.after("pass 9").refuses("serve 0", 12);
        edge.after("pass 10").refuses("serve 0", 1);
        edge("addPilot 1, order 1 1 5 0 9, serve 0").refuses("serve 0", 1);
        edge("addPilot 1, order 1 1 5 0 9, serve 0, pass 3").refuses("serve 0", 1);
    }

    private static void promise14PlansTheRideAndTheTrip() {
        Edge edge = edge("addPilot 1, addBoat 1, order 1 1 5 0 9, order 1 0 5 0 9");
        Edge first = edge.after("serve 0");
        first.answers("pilot 0 3", 1).answers("number 7", 0).answers("number 8", 0);
        first.answers("pilot 0 4", 3);
        Edge second = edge.after("serve 1");
        second.answers("pilot 0 3", 2).answers("number 7", 1).answers("number 8", 1);
        second.answers("planOf 0 0 1", 0).answers("planOf 0 1 1", 2).answers("pilot 0 4", 5);
        second.answers("boat 0 2", 1).answers("boat 0 3", 2).answers("boat 0 4", 1);
    }

    // ---- promise 15

    private static void promise15NoOpenOrder() {
        edge("").answers("serveAll", 0);
        edge("").after("serveAll").answers("number 12", 1);
        Edge done = edge("addPilot 1, 2*order 1 1 5 0 0, plan 0 0 0, pass 3");
        done.answers("serveAll", 0);
        done.after("serveAll").answers("number 2", 1).answers("number 3", 1);
    }

    /** Sixteen trips of one pilot, to and fro, one behind the other. */
    private static void promise15AllOrNoneServed() {
        StringBuilder orders = new StringBuilder(AWAKE + "addPilot 1");
        for (int k = 0; k < 16; k++) {
            orders.append(", order 1 ").append(1 - k % 2).append(" 5 ").append(3 * k).append(' ')
                    .append(3 * k);
        }
        Edge all = edge(orders.toString());
        all.answers("serveAll", 16);
        all.after("serveAll").answers("number 1", 16).answers("number 0", 0);
        all.after("serveAll").answers("pilot 0 3", 16).answers("pilot 0 4", 48);
        Edge none = edge("16*order 1 1 5 0 9");
        none.answers("serveAll", 0);
        none.after("serveAll").answers("number 1", 0).answers("number 0", 16);
        edge("6*addPilot 1, 16*order 1 1 5 0 9").answers("serveAll", 6);
    }

    private static void promise15AsFarAsTheyCanBeServed() {
        String setup = AWAKE + "addPilot 1, order 1 1 5 0 0, order 1 0 5 0 ";
        edge(setup + "2").answers("serveAll", 1);
        edge(setup + "3").answers("serveAll", 2);
        edge(setup + "2, serveAll").answers("orderOf 0 5", 1).answers("orderOf 1 5", 0);
        // One that cannot be served stands ahead of one that can be.
        edge("addPilot 1, order 2 1 5 0 0, order 1 1 5 0 9").answers("serveAll", 1);
    }

    /** One pilot, two orders from the harbour: the more urgent one is served. */
    private static void promise15ByUrgency() {
        String[] orders = {
            "order 1 1 5 0 9, order 1 1 5 0 9", "order 1 1 5 0 9, order 1 1 5 0 8",
            "order 1 1 5 3 9, order 1 1 5 2 9", "order 1 1 5 2 9, order 1 1 5 3 9",
            "order 1 1 5 0 9, order 1 1 5 8 8"};
        int[] served = {0, 1, 1, 0, 1};
        for (int k = 0; k < orders.length; k++) {
            Edge edge = edge("addPilot 1, " + orders[k]);
            edge.answers("serveAll", 1);
            edge.after("serveAll").answers("orderOf " + served[k] + " 5", 1);
            edge.after("serveAll").answers("orderOf " + (1 - served[k]) + " 5", 0);
        }
    }

    private static void promise15NothingIsRefused() {
        Edge edge = Edge.bare(CHECK, "order 1 1 5 0 9");
        edge.after("serveAll").fails("refusal 1", NONE);
        edge.after("!serve 0, serveAll").answers("refusal 1", 12);
    }

    // ---- promise 16

    private static void promise16Order() {
        edge("addPilot 1").fails("release 0", NO_SUCH);
        Edge full = edge("2*addPilot 1, 16*order 1 1 5 0 9, plan 0 0 5, plan 15 1 5");
        full.answers("release 0", 0).answers("release 15", 1);
        full.fails("release -1", NO_SUCH).fails("release 16", NO_SUCH);
        full.fails("release min", NO_SUCH).fails("release max", NO_SUCH);
    }

    /** "13, it is not planned". */
    private static void promise16NotPlanned() {
        Edge open = edge("addPilot 1, order 1 1 5 4 9");
        open.refuses("release 0", 13);
        open.after("plan 0 0 4").answers("release 0", 0);
        open.after("plan 0 0 4, release 0").refuses("release 0", 13);
        open.after("plan 0 0 4, pass 7").refuses("release 0", 13);
        open.after("pass 10").refuses("release 0", 13);
    }

    /** "or its trip has begun already"; "A trip that begins now has begun." */
    private static void promise16TripHasBegun() {
        Edge planned = edge("addPilot 1, order 1 1 5 4 9, plan 0 0 4");
        planned.after("pass 3").answers("release 0", 0);
        planned.after("pass 4").refuses("release 0", 13);
        planned.after("pass 5").refuses("release 0", 13);
        planned.after("pass 6").refuses("release 0", 13);
        edge("addPilot 1, order 1 1 5 0 9, plan 0 0 0").refuses("release 0", 13);
        edge("addPilot 1, order 1 1 5 0 9, plan 0 0 1").answers("release 0", 0);
    }

    /** "14, it is not the last one in the plan of its pilot": behind it a trip, or a ride. */
    private static void promise16NotTheLast() {
        Edge edge = edge(AWAKE + "2*addPilot 1, addBoat 1, order 1 1 5 4 9, order 1 0 5 4 90, "
                + "plan 0 0 4");
        edge.answers("release 0", 0);
        Edge trips = edge.after("plan 1 0 7");
        trips.refuses("release 0", 14).answers("release 1", 0);
        trips.after("release 1").answers("release 0", 0);
        Edge ridden = edge.after("run 0 4 0, run 0 7 1");
        ridden.refuses("release 0", 14);
        ridden.after("pass 3").refuses("release 0", 14);
        // A ride of another pilot, or a run without any, is not in this plan.
        edge.after("run 0 4 2, run 0 7 2").answers("release 0", 0);
        edge.after("run 0 4 0").answers("release 0", 0);
    }

    private static void promise16BegunAheadOfNotTheLast() {
        Edge edge = edge(AWAKE + "addPilot 1, order 1 1 5 4 9, order 1 0 5 4 90, plan 0 0 4, "
                + "plan 1 0 20");
        edge.after("pass 3").refuses("release 0", 14);
        edge.after("pass 4").refuses("release 0", 13);
        edge.after("pass 7").refuses("release 0", 13);
        edge.after("pass 7").answers("release 1", 0);
    }

    /** "the order is open then": also at its latest hour, and urgent again. */
    private static void promise16OpenAgain() {
        Edge edge = edge("addPilot 1, order 1 1 5 4 9, plan 0 0 9, pass 8, release 0");
        edge.answers("orderOf 0 5", 0).answers("number 0", 1).answers("urgent 0", 0);
        edge.answers("pilot 0 3", 0).answers("pilot 0 4", 0).answers("pilot 0 5", 0);
        edge.answers("pilot 0 6", 0).answers("number 9", 0).answers("place 0 9", 0);
        edge.fails("meanWait", ArithmeticException.class);
        edge.answers("plan 0 0 9", 12).answers("pass 1", 0).answers("pass 2", 1);
        edge.answers("putOff 0 1", 10);
    }

    private static void promise16RideStays() {
        Edge edge = edge("addPilot 1, addBoat 1, order 1 0 5 4 9, serve 0, release 0");
        edge.answers("pilot 0 3", 1).answers("planOf 0 0 0", 1).fails("planOf 0 1 0", NONE);
        edge.answers("pilot 0 4", 4).answers("pilot 0 5", 0).answers("boat 0 1", 1);
        edge.answers("place 0 4", 1).answers("number 8", 1);
    }

    // ---- promise 17

    private static void promise17Order() {
        edge("").fails("putOff 0 1", NO_SUCH);
        Edge full = edge("16*order 1 1 5 0 9");
        full.answers("putOff 0 1", 10).answers("putOff 15 1", 10);
        full.fails("putOff -1 1", NO_SUCH).fails("putOff 16 1", NO_SUCH);
        full.fails("putOff min 1", NO_SUCH).fails("putOff max 1", NO_SUCH);
    }

    /** "the number of hours, 1 to 48". */
    private static void promise17Hours() {
        Edge edge = edge("order 1 1 5 0 9");
        edge.fails("putOff 0 0", WRONG).answers("putOff 0 1", 10);
        edge.answers("putOff 0 48", 57).fails("putOff 0 49", WRONG);
        edge.fails("putOff 0 -1", WRONG).fails("putOff 0 min", WRONG).fails("putOff 0 max", WRONG);
        edge.after("putOff 0 48").answers("orderOf 0 4", 57).answers("orderOf 0 3", 0);
    }

    /** "at most 900"; "A putting off counts also if the latest hour is 900 already." */
    private static void promise17AtMost900() {
        edge("order 1 1 5 0 851").answers("putOff 0 48", 899);
        edge("order 1 1 5 0 852").answers("putOff 0 48", 900);
        edge("order 1 1 5 0 853").answers("putOff 0 48", 900);
        edge("order 1 1 5 0 899").answers("putOff 0 1", 900).answers("putOff 0 2", 900);
        Edge last = edge("order 1 1 5 0 900");
        last.answers("putOff 0 1", 900).answers("putOff 0 48", 900);
        last.after("putOff 0 1").answers("orderOf 0 4", 900).answers("orderOf 0 9", 1);
        last.after("putOff 0 1").answers("number 10", 1).answers("number 12", 2);
        last.after("2*putOff 0 1").refuses("putOff 0 1", 15);
    }

    /** "15, it was put off twice already". */
    private static void promise17TwiceAlready() {
        Edge edge = edge("2*order 1 1 5 0 9");
        edge.answers("putOff 0 1", 10);
        edge.after("putOff 0 1").answers("putOff 0 1", 11);
        edge.after("2*putOff 0 1").refuses("putOff 0 1", 15).answers("putOff 1 1", 10);
        edge.after("2*putOff 0 1, undo").answers("putOff 0 1", 11);
    }

    /** Reason 1 in each state but open, and ahead of 15. */
    private static void promise17NotOpen() {
        Edge open = edge("addPilot 1, order 1 1 5 4 9");
        open.after("plan 0 0 4, release 0").answers("putOff 0 1", 10);
        open.after("plan 0 0 4").refuses("putOff 0 1", 1);
        open.after("plan 0 0 4, pass 7").refuses("putOff 0 1", 1);
        open.after("pass 9").answers("putOff 0 1", 10);
        open.after("pass 10").refuses("putOff 0 1", 1);
        open.after("2*putOff 0 1, plan 0 0 4").refuses("putOff 0 1", 1);
        open.after("2*putOff 0 1, pass 11").refuses("putOff 0 1", 15);
        open.after("2*putOff 0 1, pass 12").refuses("putOff 0 1", 1);
    }

    private static void promise17FirstException() {
        Edge edge = edge("order 1 1 5 0 9, 2*putOff 0 1");
        edge.fails("putOff 1 0", NO_SUCH).fails("putOff -1 49", NO_SUCH);
        edge.fails("putOff 0 0", WRONG).fails("putOff 0 49", WRONG);
        edge.after("pass 12").fails("putOff 0 0", WRONG);
    }

    // ---- promise 18

    private static void promise18Place() {
        edge("").fails("urgent 0", NONE).fails("urgent -1", NONE);
        Edge one = edge("order 1 1 5 0 9");
        one.fails("urgent -1", NONE).asks("urgent 0", 0).fails("urgent 1", NONE);
        one.fails("urgent min", NONE).fails("urgent max", NONE);
        Edge full = edge("16*order 1 1 5 0 9");
        full.asks("urgent 0", 0).asks("urgent 15", 15).fails("urgent 16", NONE);
        full.after("pass 9").answers("urgent 0", 0);
        full.after("pass 10").fails("urgent 0", NONE);
    }

    /** By latest hours, "of like ones of their earliest hours, of like ones of their numbers". */
    private static void promise18Ties() {
        edge("order 1 1 5 3 8, order 1 1 5 2 9").answers("urgent 0", 0).answers("urgent 1", 1);
        edge("order 1 1 5 2 9, order 1 1 5 3 8").answers("urgent 0", 1).answers("urgent 1", 0);
        edge("order 1 1 5 3 9, order 1 1 5 2 9").answers("urgent 0", 1).answers("urgent 1", 0);
        edge("order 1 1 5 2 9, order 1 1 5 3 9").answers("urgent 0", 0).answers("urgent 1", 1);
        edge("3*order 1 1 5 2 9").answers("urgent 0", 0).answers("urgent 1", 1)
                .answers("urgent 2", 2);
        // Put off by an hour, the one becomes like the other.
        Edge off = edge("order 1 1 5 2 9, order 1 1 5 2 8");
        off.answers("urgent 0", 1).after("putOff 1 1").answers("urgent 0", 0);
        StringBuilder turned = new StringBuilder("pass 0");
        for (int k = 0; k < 16; k++) {
            turned.append(", order 1 1 5 0 ").append(40 - k);
        }
        Edge full = edge(turned.toString());
        for (int i = 0; i < 16; i++) {
            full.answers("urgent " + i, 15 - i);
        }
    }

    private static void promise18OpenOrdersAlone() {
        Edge edge = edge("addPilot 1, order 1 1 5 0 0, order 1 1 5 0 9, order 1 1 5 0 2, "
                + "order 1 1 5 0 9, plan 0 0 0");
        edge.answers("urgent 0", 2).answers("urgent 1", 1).answers("urgent 2", 3);
        edge.fails("urgent 3", NONE);
        Edge later = edge.after("pass 3");
        later.answers("urgent 0", 1).answers("urgent 1", 3).fails("urgent 2", NONE);
    }
}
