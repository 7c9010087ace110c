import java.util.NoSuchElementException;

/**
 * The boundaries of promises 19 to 23, and of the terms Places, Pilots and Boats: for each the
 * last case on this side and the first one beyond it.
 */
public final class EdgeCrewTest {
    private static final Check CHECK = new Check("EdgeCrewTest");
    private static final Class<IllegalArgumentException> WRONG = IllegalArgumentException.class;
    private static final Class<IndexOutOfBoundsException> NO_SUCH =
            IndexOutOfBoundsException.class;
    private static final Class<NoSuchElementException> NONE = NoSuchElementException.class;

    /** Pilot 0: a trip from 1 to 4, a ride from 5 to 7, a trip from 21 to 25. */
    private static final String SETUP = "addPilot 2, addPilot 4, addBoat 2, order 1 1 5 0 90, "
            + "order 2 1 5 0 90, plan 0 0 1, run 0 2 0, run 0 5 1, plan 1 0 21";

    public static void main(String[] args) {
        promise19Pilot();
        promise19What();
        promise19EmptyPlan();
        promise19WithoutATrip();
        promise19TripsThatAreDone();
        promise19HoursOfAllTrips();
        promise20Pilot();
        promise20Place();
        promise20What();
        promise20FirstException();
        promise20Numbers();
        promise20LongestPlan();
        promise21And22Pilot();
        promise21And22Hour();
        promise21And22TripAndRide();
        promise21And22OneBehindTheOther();
        promise21And22LastHours();
        promise21And22ForHoursAheadOfNow();
        promise23Boat();
        promise23What();
        promise23WithoutARun();
        promise23Numbers();
        CHECK.end();
    }

    private static Edge edge(String setup) {
        return Edge.of(CHECK, setup);
    }

    // ---- promise 19

    private static void promise19Pilot() {
        edge("").fails("pilot 0 0", NO_SUCH).fails("pilot -1 0", NO_SUCH);
        Edge full = edge("5*addPilot 1, addPilot 3");
        full.asks("pilot 0 0", 1).asks("pilot 5 0", 3);
        full.fails("pilot -1 0", NO_SUCH).fails("pilot 6 0", NO_SUCH);
        full.fails("pilot min 0", NO_SUCH).fails("pilot max 0", NO_SUCH);
        edge("2*addPilot 1").asks("pilot 1 0", 1).fails("pilot 2 0", NO_SUCH);
    }

    /** No such pilot goes ahead of what is out of range. */
    private static void promise19What() {
        Edge edge = edge(SETUP);
        edge.fails("pilot 0 -1", WRONG).asks("pilot 0 0", 2);
        edge.asks("pilot 0 6", 7).fails("pilot 0 7", WRONG);
        edge.fails("pilot 0 min", WRONG).fails("pilot 0 max", WRONG);
        edge.fails("pilot 2 7", NO_SUCH).fails("pilot -1 -1", NO_SUCH);
    }

    /** "0 with an empty plan", "0 without a trip", however late it is. */
    private static void promise19EmptyPlan() {
        Edge edge = edge("addPilot 2, pass 40");
        int[] numbers = {2, 0, 0, 0, 0, 0, 0};
        for (int what = 0; what < numbers.length; what++) {
            edge.answers("pilot 0 " + what, numbers[what]);
        }
    }

    private static void promise19WithoutATrip() {
        Edge edge = edge("addPilot 2, addBoat 1, run 0 3 1");
        int[] numbers = {2, 0, 0, 1, 5, 0, 0};
        for (int what = 0; what < numbers.length; what++) {
            edge.answers("pilot 0 " + what, numbers[what]);
        }
    }

    /** A trip is done at its end; one with a smaller ship does not count in the licence. */
    private static void promise19TripsThatAreDone() {
        Edge edge = edge(SETUP);
        edge.after("pass 3").answers("pilot 0 2", 0).answers("pilot 0 1", 0);
        edge.after("pass 4").answers("pilot 0 2", 1).answers("pilot 0 1", 0);
        edge.after("pass 24").answers("pilot 0 2", 1).answers("pilot 0 1", 0);
        edge.after("pass 25").answers("pilot 0 2", 2).answers("pilot 0 1", 1);
        edge.after("pass 25").answers("pilot 1 2", 0);
    }

    /** "those that are planned included"; rides are no trips. */
    private static void promise19HoursOfAllTrips() {
        Edge edge = edge(SETUP);
        edge.answers("pilot 0 6", 7).answers("pilot 1 6", 0);
        edge.after("pass 48").answers("pilot 0 6", 7);
        edge.after("release 1").answers("pilot 0 6", 3);
        edge("addPilot 4, order 4 1 5 900 900, plan 0 0 900").answers("pilot 0 6", 6)
                .answers("pilot 0 4", 906).answers("pilot 0 5", 912);
        edge("addPilot 4, order 4 1 5 890 890, plan 0 0 890, rule 0 24, rule 4 12")
                .answers("pilot 0 5", 932);
    }

    // ---- promise 20

    private static void promise20Pilot() {
        edge("").fails("planOf 0 0 0", NO_SUCH);
        Edge edge = edge(SETUP);
        edge.asks("planOf 0 0 0", 0);
        edge.fails("planOf -1 0 0", NO_SUCH).fails("planOf 2 0 0", NO_SUCH);
        edge.fails("planOf min 0 0", NO_SUCH).fails("planOf max 0 0", NO_SUCH);
    }

    private static void promise20Place() {
        Edge edge = edge(SETUP);
        edge.fails("planOf 0 -1 1", NONE).asks("planOf 0 0 1", 1);
        edge.asks("planOf 0 2 1", 21).fails("planOf 0 3 1", NONE);
        edge.fails("planOf 0 min 1", NONE).fails("planOf 0 max 1", NONE);
        edge.fails("planOf 1 0 1", NONE).fails("planOf 1 -1 1", NONE);
        edge.after("release 1").answers("planOf 0 1 1", 5).fails("planOf 0 2 1", NONE);
    }

    private static void promise20What() {
        Edge edge = edge(SETUP);
        edge.fails("planOf 0 0 -1", WRONG).asks("planOf 0 0 0", 0);
        edge.asks("planOf 0 0 4", 1).fails("planOf 0 0 5", WRONG);
        edge.fails("planOf 0 0 min", WRONG).fails("planOf 0 0 max", WRONG);
        edge.fails("planOf 0 2 5", WRONG);
    }

    /** No such pilot, then no such place, then what is out of range. */
    private static void promise20FirstException() {
        Edge edge = edge(SETUP);
        edge.fails("planOf 2 3 5", NO_SUCH).fails("planOf -1 -1 -1", NO_SUCH);
        edge.fails("planOf 2 0 5", NO_SUCH).fails("planOf 2 3 0", NO_SUCH);
        edge.fails("planOf 0 3 5", NONE).fails("planOf 0 -1 -1", NONE);
        edge.fails("planOf 1 0 5", NONE);
    }

    /** The kind, both hours, the order or the boat, and the place where it ends. */
    private static void promise20Numbers() {
        Edge edge = edge(SETUP);
        int[][] plan = {{0, 1, 4, 0, 1}, {1, 5, 7, 0, 0}, {0, 21, 25, 1, 1}};
        for (int i = 0; i < plan.length; i++) {
            for (int what = 0; what < 5; what++) {
                edge.answers("planOf 0 " + i + " " + what, plan[i][what]);
            }
        }
        Edge last = edge("addPilot 1, 3*addBoat 1, 15*order 1 1 5 0 9, order 1 0 5 0 9, "
                + "run 2 0 1, plan 15 0 2");
        last.answers("planOf 0 0 3", 2).answers("planOf 0 0 4", 1);
        last.answers("planOf 0 1 3", 15).answers("planOf 0 1 4", 0);
    }

    /** As many rides as an object's calls allow: one of an hour, each hour. */
    private static void promise20LongestPlan() {
        Calls x = new Calls();
        Script.run(x, "rule 1 1, addPilot 1, addBoat 1");
        for (int hour = 0; hour < 493; hour++) {
            CHECK.isTrue("run " + hour, x.call("run", 0, hour, 1).equals(hour + 1));
        }
        String[] calls = {
            "pilot 0 3", "pilot 0 4", "pilot 0 5", "planOf 0 492 1", "planOf 0 492 4",
            "planOf 0 0 2", "place 0 492", "place 0 493", "placeAgain 0 492", "placeAgain 0 493",
            "boat 0 1", "boat 0 4", "number 7", "number 8", "number 12"};
        int[] due = {493, 493, 0, 492, 1, 1, -1, 1, -1, 1, 493, 493, 493, 493, 8};
        for (int k = 0; k < calls.length; k++) {
            Object got = Script.answer(x, calls[k]);
            CHECK.isTrue(calls[k] + " of the longest plan answered " + got, got.equals(due[k]));
        }
        CHECK.isTrue("beyond the longest plan",
                Script.answer(x, "planOf 0 493 0").equals(NONE));
        CHECK.isTrue("calls are left", x.left() == 0);
    }

    // ---- promises 21 and 22

    private static void both(Edge edge, int pilot, int hour, int due) {
        edge.asks("place " + pilot + " " + hour, due);
        edge.asks("placeAgain " + pilot + " " + hour, due);
    }

    private static void neither(Edge edge, String pilot, String hour) {
        edge.fails("place " + pilot + " " + hour, NO_SUCH);
        edge.fails("placeAgain " + pilot + " " + hour, NO_SUCH);
    }

    private static void promise21And22Pilot() {
        neither(edge(""), "0", "0");
        Edge full = edge("6*addPilot 1");
        both(full, 0, 0, 0);
        both(full, 5, 0, 0);
        for (String pilot : new String[] {"-1", "6", "min", "max"}) {
            neither(full, pilot, "0");
        }
    }

    private static void promise21And22Hour() {
        Edge edge = edge(SETUP);
        both(edge, 0, 0, 0);
        both(edge, 0, 999, 1);
        for (String hour : new String[] {"-1", "1000", "min", "max"}) {
            neither(edge, "0", hour);
            neither(edge, "1", hour);
        }
    }

    /** "from its beginning up to the one before its end; at the end the pilot is there". */
    private static void promise21And22TripAndRide() {
        Edge edge = edge(SETUP);
        int[][] hourAndPlace = {
            {0, 0}, {1, -1}, {3, -1}, {4, 1}, {5, -1}, {6, -1}, {7, 0}, {20, 0}, {21, -1},
            {24, -1}, {25, 1}, {999, 1}};
        for (int[] row : hourAndPlace) {
            both(edge, 0, row[0], row[1]);
            both(edge.after("pass 30"), 0, row[0], row[1]);
        }
        both(edge.after("release 1"), 0, 21, 0);
        both(edge.after("release 1"), 0, 25, 0);
    }

    /** A ride from 0 to 2, a trip from 2 to 5, a ride from 5 to 7. */
    private static void promise21And22OneBehindTheOther() {
        Edge edge = edge("addPilot 1, 2*addBoat 1, order 1 0 5 2 2, run 0 0 1, plan 0 0 2, "
                + "run 1 5 1");
        for (int hour = 0; hour <= 6; hour++) {
            both(edge, 0, hour, -1);
        }
        both(edge, 0, 7, 1);
    }

    private static void promise21And22LastHours() {
        Edge edge = edge("addPilot 4, order 4 1 5 900 900, plan 0 0 900");
        both(edge, 0, 899, 0);
        both(edge, 0, 900, -1);
        both(edge, 0, 905, -1);
        both(edge, 0, 906, 1);
        both(edge, 0, 999, 1);
    }

    private static void promise21And22ForHoursAheadOfNow() {
        Edge late = edge("addPilot 1, order 1 1 5 0 0, plan 0 0 0, 20*pass 48, pass 39");
        both(late, 0, 0, -1);
        both(late, 0, 2, -1);
        both(late, 0, 3, 1);
        both(late, 0, 999, 1);
    }

    // ---- promise 23

    private static void promise23Boat() {
        edge("").fails("boat 0 0", NO_SUCH);
        Edge full = edge("2*addBoat 1, addBoat 3");
        full.asks("boat 0 0", 1).asks("boat 2 0", 3);
        full.fails("boat -1 0", NO_SUCH).fails("boat 3 0", NO_SUCH);
        full.fails("boat min 0", NO_SUCH).fails("boat max 0", NO_SUCH);
        edge("addBoat 1").fails("boat 1 0", NO_SUCH);
    }

    private static void promise23What() {
        Edge edge = edge("addBoat 3");
        edge.fails("boat 0 -1", WRONG).asks("boat 0 0", 3).asks("boat 0 4", 0);
        edge.fails("boat 0 5", WRONG).fails("boat 0 min", WRONG).fails("boat 0 max", WRONG);
        edge.fails("boat 1 5", NO_SUCH).fails("boat -1 -1", NO_SUCH);
    }

    /** "0 without one", however late it is. */
    private static void promise23WithoutARun() {
        Edge edge = edge("addBoat 3, pass 40");
        int[] numbers = {3, 0, 0, 0, 0};
        for (int what = 0; what < numbers.length; what++) {
            edge.answers("boat 0 " + what, numbers[what]);
        }
    }

    /** The runs, the place where the last one ends, when it is free, and the rides on it. */
    private static void promise23Numbers() {
        String[] runs = {"run 1 3 0", "run 1 5 15", "run 1 900 1"};
        int[][] numbers = {{4, 1, 1, 5, 0}, {4, 2, 0, 7, 4}, {4, 3, 1, 902, 5}};
        Edge edge = edge("6*addPilot 1, addBoat 4, addBoat 4, run 0 1 15");
        for (int k = 0; k < runs.length; k++) {
            edge = edge.after(runs[k]);
            for (int what = 0; what < 5; what++) {
                edge.answers("boat 1 " + what, numbers[k][what]);
            }
        }
        edge.answers("boat 0 1", 1).answers("boat 0 4", 4);
    }
}
