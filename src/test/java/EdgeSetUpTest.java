import java.util.NoSuchElementException;

/**
 * The boundaries of promises 1 to 9, and of the terms Hours, Rules, Tides, Places and Orders: for
 * each the last case on this side and the first one beyond it.
 */
public final class EdgeSetUpTest {
    private static final Check CHECK = new Check("EdgeSetUpTest");
    private static final Class<IllegalArgumentException> WRONG = IllegalArgumentException.class;
    private static final Class<IllegalStateException> FULL = IllegalStateException.class;
    private static final Class<IndexOutOfBoundsException> NO_SUCH =
            IndexOutOfBoundsException.class;
    private static final Class<NoSuchElementException> NONE = NoSuchElementException.class;

    public static void main(String[] args) {
        promise1NothingIsThere();
        promise1NothingIsKept();
        promise1NumbersOfANewObject();
        promise2What();
        promise2Value();
        promise2ReturnsThePreviousNumber();
        promise2RestWhenApplied();
        promise2HoursOfABoatWhenApplied();
        promise2MostTripsWhenApplied();
        promise2LeastTripsWhenApplied();
        promise2DepthWhenApplied();
        promise2RestForNightWhenApplied();
        promise3Number();
        promise3Height();
        promise3ReturnsThePreviousHeight();
        promise4Hour();
        promise4RemainderOfTheHour();
        promise4LeastAndMostDepth();
        promise5Licence();
        promise5SixPilots();
        promise5FirstInTheHarbour();
        promise6Room();
        promise6ThreeBoats();
        promise6FirstInTheHarbour();
        promise7Size();
        promise7Draught();
        promise7Earliest();
        promise7Latest();
        promise7AtHour900();
        promise7SixteenOrders();
        promise7ANewOneIsOpen();
        promise8Order();
        promise8What();
        promise8UnlessPlannedOrDone();
        promise8HowOftenPutOff();
        promise8HoursOfTheWindow();
        promise9OrderAndHour();
        promise9FromAnHourOn();
        promise9NoWindow();
        promise9DepthAtLeastTheDraught();
        promise9AllHoursOfTheTrip();
        promise9HoursBehindTheLatest();
        promise9OverTheEndOfTheTides();
        promise9AnyStateAndAheadOfNow();
        CHECK.end();
    }

    private static Edge edge(String setup) {
        return Edge.of(CHECK, setup);
    }

    // ---- promise 1

    /** "Creates a roster without orders, pilots and boats": the lowest number is beyond all. */
    private static void promise1NothingIsThere() {
        Edge empty = Edge.bare(CHECK, "");
        String[] calls = {
            "orderOf 0 0", "window 0 0", "hinders 0 0 0", "plan 0 0 0", "run 0 0 0",
            "serving 0 0", "serve 0", "release 0", "putOff 0 1", "pilot 0 0", "planOf 0 0 0",
            "place 0 0", "placeAgain 0 0", "boat 0 0", "share 0"};
        for (String call : calls) {
            empty.fails(call, NO_SUCH);
        }
        empty.answers("serveAll", 0);
        empty.fails("urgent 0", NONE);
        empty.fails("meanWait", ArithmeticException.class);
        empty.answers("saveSnapshot", 0);
    }

    private static void promise1NothingIsKept() {
        Edge empty = Edge.bare(CHECK, "");
        empty.fails("faultPosition", NONE);
        empty.fails("refusal 1", NONE);
        empty.fails("refusal 0", NONE);
        empty.fails("undo", FULL);
        empty.fails("restoreSnapshot", FULL);
    }

    /** "now is hour 0", and the first rules and heights. */
    private static void promise1NumbersOfANewObject() {
        Edge empty = Edge.bare(CHECK, "");
        for (int what = 0; what <= 13; what++) {
            empty.answers("number " + what, 0);
        }
        int[] rules = {6, 2, 3, 10, 2};
        for (int k = 0; k < rules.length; k++) {
            empty.answers("number " + (20 + k), rules[k]);
        }
        int[] heights = {0, 1, 2, 3, 4, 5, 6, 5, 4, 3, 2, 1};
        for (int k = 0; k < heights.length; k++) {
            empty.answers("number " + (30 + k), heights[k]);
        }
    }

    // ---- promise 2

    /** "if what .. is out of range". */
    private static void promise2What() {
        Edge edge = edge("pass 1");
        edge.fails("rule -1 1", WRONG).answers("rule 0 1", 6);
        edge.answers("rule 4 1", 2).fails("rule 5 1", WRONG);
        edge.fails("rule min 1", WRONG).fails("rule max 1", WRONG);
        edge.fails("rule -1 -1", WRONG).fails("rule 5 31", WRONG);
    }

    /** "0, the rest, 0 to 24 hours, .. 4, the rest for night, 0 to 12 hours". */
    private static void promise2Value() {
        int[] least = {0, 1, 1, 1, 0};
        int[] most = {24, 6, 9, 30, 12};
        int[] first = {6, 2, 3, 10, 2};
        Edge edge = edge("pass 1");
        for (int what = 0; what < 5; what++) {
            String rule = "rule " + what + " ";
            String number = "number " + (20 + what);
            edge.fails(rule + (least[what] - 1), WRONG);
            edge.answers(rule + least[what], first[what]);
            edge.after(rule + least[what]).answers(number, least[what]);
            edge.answers(rule + most[what], first[what]);
            edge.after(rule + most[what]).answers(number, most[what]);
            edge.fails(rule + (most[what] + 1), WRONG);
            edge.fails(rule + "min", WRONG).fails(rule + "max", WRONG);
        }
    }

    private static void promise2ReturnsThePreviousNumber() {
        Edge edge = edge("rule 0 24, rule 3 1");
        edge.answers("rule 0 0", 24).answers("rule 3 30", 1);
        edge.after("rule 0 24").answers("rule 0 24", 24);
        edge.after("undo, undo").answers("rule 0 24", 6).answers("rule 3 1", 10);
    }

    /** A trip from 6 to 9; the other one, back from the sea, waits for the rest. */
    private static void promise2RestWhenApplied() {
        Edge edge = edge("addPilot 1, order 1 1 5 6 6, order 1 0 5 0 90, plan 0 0 6");
        edge.asks("hinders 1 0 14", 7).asks("hinders 1 0 15", 0);
        edge.after("rule 0 24").answers("hinders 1 0 32", 7).answers("hinders 1 0 33", 0);
        edge.after("rule 0 0").answers("hinders 1 0 8", 5).answers("hinders 1 0 9", 0);
        edge.after("rule 0 1").answers("hinders 1 0 9", 7).answers("hinders 1 0 10", 0);
    }

    private static void promise2HoursOfABoatWhenApplied() {
        Edge edge = edge("addBoat 1");
        edge.answers("run 0 0 0", 2);
        edge.after("rule 1 1").answers("run 0 0 0", 1).answers("run 0 900 0", 901);
        edge.after("rule 1 6").answers("run 0 0 0", 6).answers("run 0 900 0", 906);
        edge.after("run 0 0 0, rule 1 6").answers("boat 0 3", 2);
    }

    /** Nine trips to and fro without rest, each of three hours. */
    private static void promise2MostTripsWhenApplied() {
        StringBuilder trips = new StringBuilder("rule 0 0, rule 4 0, rule 2 9, addPilot 1");
        for (int k = 0; k < 9; k++) {
            trips.append(", order 1 ").append(1 - k % 2).append(" 5 0 90, plan ").append(k)
                    .append(" 0 ").append(3 * k);
        }
        Edge edge = edge(trips.toString());
        edge.after("pass 26").answers("pilot 0 0", 1).answers("pilot 0 1", 8);
        edge.after("pass 27").answers("pilot 0 0", 2).answers("pilot 0 1", 0);
    }

    private static void promise2LeastTripsWhenApplied() {
        Edge edge = edge("rule 2 1, addPilot 1, order 1 1 5 0 0, plan 0 0 0");
        edge.after("pass 2").answers("pilot 0 0", 1).answers("pilot 0 1", 0);
        edge.after("pass 3").answers("pilot 0 0", 2).answers("pilot 0 1", 0);
    }

    private static void promise2DepthWhenApplied() {
        Edge edge = edge("order 1 1 1 0 90, order 1 1 2 0 90, order 1 1 30 0 90");
        edge.after("rule 3 1").answers("window 0 0", 0).answers("window 1 0", 1);
        edge.after("rule 3 2").answers("window 1 0", 0);
        edge.after("rule 3 30").answers("window 2 0", 0);
        edge.after("rule 3 29").answers("window 2 0", 1);
        edge.after("rule 3 24").fails("window 2 0", NONE);
    }

    /** A trip from 5 to 8, whose first hour is night. */
    private static void promise2RestForNightWhenApplied() {
        Edge edge = edge("addPilot 1, order 1 1 5 5 5, order 1 0 5 0 90, plan 0 0 5");
        edge.answers("pilot 0 5", 16).answers("hinders 1 0 15", 7).answers("hinders 1 0 16", 0);
        edge.after("rule 4 0").answers("pilot 0 5", 14).answers("hinders 1 0 13", 7)
                .answers("hinders 1 0 14", 0);
        edge.after("rule 4 12").answers("pilot 0 5", 26).answers("hinders 1 0 25", 7)
                .answers("hinders 1 0 26", 0);
    }

    // ---- promise 3

    /** "its number, 0 to 11". */
    private static void promise3Number() {
        Edge edge = edge("pass 1");
        edge.fails("tide -1 5", WRONG).answers("tide 0 5", 0);
        edge.answers("tide 11 5", 1).fails("tide 12 5", WRONG);
        edge.fails("tide min 5", WRONG).fails("tide max 5", WRONG);
        edge.fails("tide -1 -1", WRONG).fails("tide 12 10", WRONG);
    }

    /** "12 heights from 0 to 9". */
    private static void promise3Height() {
        Edge edge = edge("pass 1");
        edge.fails("tide 3 -1", WRONG).answers("tide 3 0", 3);
        edge.after("tide 3 0").answers("number 33", 0).answers("depth 3", 10);
        edge.answers("tide 3 9", 3).fails("tide 3 10", WRONG);
        edge.after("tide 3 9").answers("number 33", 9).answers("depth 3", 19);
        edge.fails("tide 3 min", WRONG).fails("tide 3 max", WRONG);
    }

    private static void promise3ReturnsThePreviousHeight() {
        Edge edge = edge("tide 0 9, tide 11 0");
        edge.answers("tide 0 9", 9).answers("tide 11 9", 0);
        edge.after("undo, undo").answers("tide 0 9", 0).answers("tide 11 0", 1);
    }

    // ---- promise 4

    /** "hours, numbered from 0 to 999". */
    private static void promise4Hour() {
        Edge edge = edge("pass 48");
        edge.fails("depth -1", NO_SUCH).asks("depth 0", 10);
        edge.asks("depth 999", 13).fails("depth 1000", NO_SUCH);
        edge.fails("depth min", NO_SUCH).fails("depth max", NO_SUCH);
    }

    /** "the remainder of the hour divided by 12". */
    private static void promise4RemainderOfTheHour() {
        Edge first = edge("tide 0 9");
        first.answers("depth 0", 19).answers("depth 11", 11).answers("depth 12", 19);
        first.answers("depth 13", 11).answers("depth 995", 11).answers("depth 996", 19);
        first.answers("depth 997", 11);
        Edge last = edge("tide 11 9");
        last.answers("depth 10", 12).answers("depth 11", 19).answers("depth 12", 10);
        last.answers("depth 23", 19).answers("depth 24", 10).answers("depth 995", 19);
    }

    private static void promise4LeastAndMostDepth() {
        edge("rule 3 1").answers("depth 0", 1).answers("depth 1", 2);
        edge("rule 3 30, tide 6 9").answers("depth 6", 39).answers("depth 5", 35);
    }

    // ---- promise 5

    /** "a licence from 1 to 4". */
    private static void promise5Licence() {
        Edge edge = edge("pass 1");
        edge.fails("addPilot 0", WRONG).answers("addPilot 1", 0);
        edge.answers("addPilot 4", 0).fails("addPilot 5", WRONG);
        edge.fails("addPilot min", WRONG).fails("addPilot max", WRONG);
        edge.after("addPilot 1").answers("pilot 0 0", 1).answers("pilot 0 1", 0);
        edge.after("addPilot 4").answers("pilot 0 0", 4).answers("pilot 0 1", 0);
    }

    /** "At most 6 pilots can be made, numbered from 0"; a licence out of range goes ahead. */
    private static void promise5SixPilots() {
        edge("").answers("addPilot 2", 0);
        edge("5*addPilot 2").answers("addPilot 2", 5);
        Edge full = edge("6*addPilot 2");
        full.answers("number 5", 6).fails("addPilot 2", FULL);
        full.fails("addPilot 0", WRONG).fails("addPilot 5", WRONG);
        full.after("undo").answers("addPilot 2", 5);
    }

    /** "Each pilot .. is at first in the harbour", at each hour. */
    private static void promise5FirstInTheHarbour() {
        Edge late = edge("20*pass 48, pass 39, 6*addPilot 2");
        late.answers("place 0 0", 0).answers("place 5 0", 0);
        late.answers("place 5 999", 0).answers("placeAgain 5 999", 0);
    }

    // ---- promise 6

    /** "with room for 1 to 4 pilots". */
    private static void promise6Room() {
        Edge edge = edge("pass 1");
        edge.fails("addBoat 0", WRONG).answers("addBoat 1", 0);
        edge.answers("addBoat 4", 0).fails("addBoat 5", WRONG);
        edge.fails("addBoat min", WRONG).fails("addBoat max", WRONG);
        edge.after("addBoat 1").answers("boat 0 0", 1);
        edge.after("addBoat 4").answers("boat 0 0", 4);
    }

    /** "At most 3 boats can be made, numbered from 0"; a room out of range goes ahead. */
    private static void promise6ThreeBoats() {
        edge("").answers("addBoat 2", 0);
        edge("2*addBoat 2").answers("addBoat 2", 2);
        Edge full = edge("3*addBoat 2");
        full.answers("number 6", 3).fails("addBoat 2", FULL);
        full.fails("addBoat 0", WRONG).fails("addBoat 5", WRONG);
        full.after("undo").answers("addBoat 2", 2);
    }

    private static void promise6FirstInTheHarbour() {
        Edge edge = edge("3*addBoat 2, addPilot 1");
        edge.answers("boat 2 2", 0).answers("run 2 0 1", 2);
        edge.after("run 2 0 1").answers("place 0 2", 1);
    }

    // ---- promise 7

    /** "a size of a ship, 1 to 4". */
    private static void promise7Size() {
        Edge edge = edge("pass 5");
        edge.fails("order 0 1 5 5 9", WRONG).answers("order 1 1 5 5 9", 0);
        edge.answers("order 4 1 5 5 9", 0).fails("order 5 1 5 5 9", WRONG);
        edge.fails("order min 1 5 5 9", WRONG).fails("order max 1 5 5 9", WRONG);
        edge.after("order 1 1 5 5 9").answers("orderOf 0 0", 1);
        edge.after("order 4 1 5 5 9").answers("orderOf 0 0", 4);
    }

    /** "a draught from 1 to 30". */
    private static void promise7Draught() {
        Edge edge = edge("pass 5");
        edge.fails("order 2 0 0 5 9", WRONG).answers("order 2 0 1 5 9", 0);
        edge.answers("order 2 0 30 5 9", 0).fails("order 2 0 31 5 9", WRONG);
        edge.fails("order 2 0 min 5 9", WRONG).fails("order 2 0 max 5 9", WRONG);
        edge.after("order 2 0 1 5 9").answers("orderOf 0 2", 1);
        edge.after("order 2 0 30 5 9").answers("orderOf 0 2", 30);
    }

    /** "the earliest hour, not ahead of now". */
    private static void promise7Earliest() {
        Edge edge = edge("pass 5");
        edge.fails("order 2 0 5 4 9", WRONG).answers("order 2 0 5 5 9", 0);
        edge.fails("order 2 0 5 0 9", WRONG).fails("order 2 0 5 -1 9", WRONG);
        edge.fails("order 2 0 5 min 9", WRONG).fails("order 2 0 5 max 9", WRONG);
        edge("").answers("order 2 0 5 0 9", 0).fails("order 2 0 5 -1 9", WRONG);
    }

    /** "the latest hour, not ahead of the earliest one". */
    private static void promise7Latest() {
        Edge edge = edge("pass 5");
        edge.fails("order 2 0 5 9 8", WRONG).answers("order 2 0 5 9 9", 0);
        edge.fails("order 2 0 5 5 4", WRONG).answers("order 2 0 5 5 5", 0);
        edge.fails("order 2 0 5 5 min", WRONG).fails("order 2 0 5 5 max", WRONG);
        edge.fails("order 2 0 5 max max", WRONG).fails("order 2 0 5 min min", WRONG);
    }

    /** "at most 900", of now, too. */
    private static void promise7AtHour900() {
        Edge edge = edge("pass 5");
        edge.answers("order 2 0 5 5 900", 0).fails("order 2 0 5 5 901", WRONG);
        edge.answers("order 2 0 5 900 900", 0).fails("order 2 0 5 901 901", WRONG);
        edge.fails("order 2 0 5 900 901", WRONG).fails("order 2 0 5 901 900", WRONG);
        edge("18*pass 48, pass 36").answers("order 2 0 5 900 900", 0);
        Edge late = edge("18*pass 48, pass 37");
        late.fails("order 2 0 5 900 900", WRONG).fails("order 2 0 5 901 901", WRONG);
    }

    /** "At most 16 orders can be made, numbered from 0"; a number out of range goes ahead. */
    private static void promise7SixteenOrders() {
        edge("").answers("order 2 0 5 5 9", 0);
        edge("15*order 2 0 5 5 9").answers("order 2 0 5 5 9", 15);
        Edge full = edge("16*order 2 0 5 5 9");
        full.answers("number 0", 16).fails("order 2 0 5 5 9", FULL);
        full.fails("order 5 0 5 5 9", WRONG).fails("order 2 0 31 5 9", WRONG);
        full.fails("order 2 0 5 -1 9", WRONG).fails("order 2 0 5 5 901", WRONG);
        full.after("undo").answers("order 2 0 5 5 9", 15);
        edge("16*order 2 0 5 5 9, pass 10").answers("number 3", 16).fails(
                "order 2 0 5 10 20", FULL);
    }

    private static void promise7ANewOneIsOpen() {
        Edge edge = edge("pass 9, order 2 0 5 9 9");
        edge.answers("orderOf 0 5", 0).answers("number 0", 1).answers("orderOf 0 9", 0);
        edge.answers("orderOf 0 1", 0);
        edge("order 2 1 5 9 9").answers("orderOf 0 1", 1);
    }

    // ---- promise 8

    private static void promise8Order() {
        edge("").fails("orderOf 0 0", NO_SUCH).fails("orderOf -1 0", NO_SUCH);
        Edge one = edge("order 2 0 5 5 9");
        one.fails("orderOf -1 0", NO_SUCH).asks("orderOf 0 0", 2).fails("orderOf 1 0", NO_SUCH);
        one.fails("orderOf min 0", NO_SUCH).fails("orderOf max 0", NO_SUCH);
        Edge full = edge("15*order 2 0 5 5 9, order 3 0 5 5 9");
        full.asks("orderOf 15 0", 3).fails("orderOf 16 0", NO_SUCH);
    }

    /** What is out of range; no such order goes ahead. */
    private static void promise8What() {
        Edge edge = edge("order 2 0 5 5 9");
        edge.fails("orderOf 0 -1", WRONG).asks("orderOf 0 0", 2);
        edge.asks("orderOf 0 10", 5).fails("orderOf 0 11", WRONG);
        edge.fails("orderOf 0 min", WRONG).fails("orderOf 0 max", WRONG);
        edge.fails("orderOf 1 11", NO_SUCH).fails("orderOf -1 -1", NO_SUCH);
    }

    /** "each -1 unless it is planned or done". */
    private static void promise8UnlessPlannedOrDone() {
        Edge open = edge("2*addPilot 4, order 3 1 5 4 9");
        Edge planned = open.after("plan 0 1 4");
        none(open, 0);
        some(planned, 1);
        some(planned.after("pass 8"), 1);
        some(planned.after("pass 9"), 2);
        none(planned.after("release 0"), 0);
        none(open.after("pass 9"), 0);
        none(open.after("pass 10"), 3);
    }

    private static void none(Edge edge, int state) {
        edge.answers("orderOf 0 5", state).answers("orderOf 0 6", -1).answers("orderOf 0 7", -1)
                .answers("orderOf 0 8", -1);
    }

    private static void some(Edge edge, int state) {
        edge.answers("orderOf 0 5", state).answers("orderOf 0 6", 1).answers("orderOf 0 7", 4)
                .answers("orderOf 0 8", 9);
    }

    private static void promise8HowOftenPutOff() {
        Edge edge = edge("order 3 1 5 4 9");
        edge.answers("orderOf 0 9", 0);
        edge.after("putOff 0 1").answers("orderOf 0 9", 1);
        edge.after("2*putOff 0 1").answers("orderOf 0 9", 2);
        edge.after("2*putOff 0 1, !putOff 0 1").answers("orderOf 0 9", 2);
    }

    /** "10 the number of hours of its window": none, one, all that there can be. */
    private static void promise8HoursOfTheWindow() {
        edge("order 3 1 30 0 900").answers("orderOf 0 10", 0);
        edge("order 3 1 10 7 7").answers("orderOf 0 10", 1);
        edge("order 3 1 10 0 900").answers("orderOf 0 10", 901);
        edge("order 3 1 10 900 900").answers("orderOf 0 10", 1);
        // Depth 11 for three hours: from the hours 1 to 9 of each tide.
        edge("order 1 1 11 1 9").answers("orderOf 0 10", 9);
        edge("order 1 1 11 0 10").answers("orderOf 0 10", 9);
        edge("order 1 1 11 9 13").answers("orderOf 0 10", 2);
        edge("order 1 1 11 10 12").answers("orderOf 0 10", 0);
        // Put off, the window grows.
        edge("order 1 1 11 10 12, putOff 0 1").answers("orderOf 0 10", 1);
    }

    // ---- promise 9

    private static void promise9OrderAndHour() {
        edge("").fails("window 0 0", NO_SUCH);
        Edge edge = edge("order 1 1 11 3 21");
        edge.fails("window -1 0", NO_SUCH).asks("window 0 0", 3).fails("window 1 0", NO_SUCH);
        edge.fails("window min 0", NO_SUCH).fails("window max 0", NO_SUCH);
        edge.fails("window 0 -1", NO_SUCH).fails("window 0 999", NONE);
        edge.fails("window 0 1000", NO_SUCH).fails("window 1 1000", NO_SUCH);
        edge.fails("window 0 min", NO_SUCH).fails("window 0 max", NO_SUCH);
        Edge full = edge("16*order 1 1 11 3 21");
        full.asks("window 15 0", 3).fails("window 16 0", NO_SUCH);
    }

    /** The window consists of 3 to 9 and 13 to 21. */
    private static void promise9FromAnHourOn() {
        Edge edge = edge("order 1 1 11 3 21");
        int[][] fromAndHour = {
            {0, 3}, {2, 3}, {3, 3}, {4, 4}, {8, 8}, {9, 9}, {10, 13}, {12, 13}, {13, 13},
            {14, 14}, {20, 20}, {21, 21}};
        for (int[] row : fromAndHour) {
            edge.answers("window 0 " + row[0], row[1]);
        }
        edge.fails("window 0 22", NONE);
        Edge late = edge("order 1 1 5 900 900");
        late.answers("window 0 899", 900).answers("window 0 900", 900);
        late.fails("window 0 901", NONE);
    }

    /** "NoSuchElementException if there is none"; no such hour goes ahead. */
    private static void promise9NoWindow() {
        Edge edge = edge("order 1 1 11 10 12");
        edge.fails("window 0 0", NONE).fails("window 0 10", NONE).fails("window 0 12", NONE);
        edge.fails("window 0 1000", NO_SUCH).fails("window 0 -1", NO_SUCH);
        edge("order 1 1 11 9 12").answers("window 0 0", 9);
        edge("order 1 1 11 10 13").answers("window 0 0", 13);
    }

    /** "the depth is at least its draught": the depths are 14, 15, 16, 15, 14 from hour 4 on. */
    private static void promise9DepthAtLeastTheDraught() {
        edge("order 3 1 14 0 900").answers("window 0 0", 4).answers("window 0 5", 16);
        edge("order 4 1 14 0 900").fails("window 0 0", NONE);
        edge("order 1 1 15 0 900").answers("window 0 0", 5).answers("window 0 6", 17);
        edge("order 2 1 15 0 900").fails("window 0 0", NONE);
        edge("order 1 1 16 0 900").fails("window 0 0", NONE);
    }

    /** "at this and all other hours of the trip", which "takes its size plus 2 hours". */
    private static void promise9AllHoursOfTheTrip() {
        StringBuilder tides = new StringBuilder("tide 5 0");
        for (int k = 0; k < 12; k++) {
            tides.append(k == 5 ? "" : ", tide " + k + " 9");
        }
        for (int size = 1; size <= 4; size++) {
            Edge edge = edge(tides + ", order " + size + " 1 19 0 90");
            int last = 5 - (size + 2);
            edge.answers("window 0 0", last >= 0 ? 0 : 6);
            if (last >= 0) {
                edge.answers("window 0 " + last, last);
            }
            edge.answers("window 0 " + (last + 1), 6);
            edge.answers("window 0 " + (last + 12), last + 12);
            edge.answers("window 0 " + (last + 13), 18);
        }
    }

    /** The trip goes on behind the latest hour: at 7 depths of 15, 14, 13, at 8 of 14, 13, 12. */
    private static void promise9HoursBehindTheLatest() {
        Edge edge = edge("order 1 1 13 7 8");
        edge.answers("window 0 0", 7).fails("window 0 8", NONE).answers("orderOf 0 10", 1);
        // 900 has the tide 0, 905 the tide 5.
        edge("order 4 1 10 900 900").answers("window 0 0", 900);
        edge("tide 0 5, tide 5 4, order 4 1 11 900 900").answers("window 0 0", 900);
        edge("tide 0 5, tide 5 0, order 4 1 11 900 900").fails("window 0 0", NONE);
        edge("tide 0 5, tide 6 0, order 4 1 11 900 900").answers("window 0 0", 900);
    }

    private static void promise9OverTheEndOfTheTides() {
        String tides = "tide 10 9, tide 11 9, tide 0 9, ";
        edge(tides + "order 1 1 19 0 90").answers("window 0 0", 10).answers("window 0 10", 10)
                .answers("window 0 11", 22).answers("orderOf 0 10", 7);
        edge(tides + "order 2 1 19 0 90").fails("window 0 0", NONE);
    }

    /** "Windows are told of orders in any state, and for hours ahead of now." */
    private static void promise9AnyStateAndAheadOfNow() {
        Edge edge = edge("addPilot 1, 2*order 1 1 11 3 4, plan 0 0 4");
        edge.asks("window 0 0", 3).asks("window 0 4", 4);
        Edge late = edge.after("pass 7");
        late.answers("orderOf 0 5", 2).asks("window 0 0", 3).asks("window 0 4", 4);
        late.answers("orderOf 1 5", 3).asks("window 1 0", 3).asks("window 1 4", 4);
        late.fails("window 0 5", NONE).fails("window 1 5", NONE).answers("orderOf 1 10", 2);
    }
}
