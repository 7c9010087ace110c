/**
 * The boundaries of promises 10 to 12, and of the terms Pilots, Boats and Refusals: for each the
 * last case on this side and the first one beyond it.
 */
public final class EdgeTripTest {
    private static final Check CHECK = new Check("EdgeTripTest");
    private static final Class<IllegalArgumentException> WRONG = IllegalArgumentException.class;
    private static final Class<IndexOutOfBoundsException> NO_SUCH =
            IndexOutOfBoundsException.class;

    public static void main(String[] args) {
        promise10And11Order();
        promise10And11Pilot();
        promise10And11Hour();
        promise11EndOfATrip();
        promise11LastHours();
        promise11ReasonIsKept();
        reason1OrderIsNotOpen();
        reason2AheadOfNow();
        reason2FromEarliestToLatest();
        reason3NotInTheWindow();
        reason4Licence();
        reason5NotFreeBehindATrip();
        reason5NotFreeBehindARide();
        reason5NotFreeAheadOfThePlan();
        reason6NotWhereTheTripBegins();
        reason7NotRested();
        reason7NightAtBothEnds();
        reason7OfTheLastTrip();
        reason7WithoutATrip();
        firstReasonOfATrip();
        whatIsPlannedKeepsItsHours();
        promise12Boat();
        promise12Hour();
        promise12Pilots();
        promise12EmptySet();
        promise12EndAndPlace();
        reason2RunAheadOfNow();
        reason8BoatIsNotFree();
        reason9Room();
        reason10PilotIsNotFree();
        reason11PilotIsElsewhere();
        firstReasonOfARun();
        reason10OfAllAheadOf11();
        CHECK.end();
    }

    private static Edge edge(String setup) {
        return Edge.of(CHECK, setup);
    }

    /** The trip of a pilot for an order at an hour is refused for the reason, or planned if 0. */
    private static void trip(Edge edge, int order, int pilot, int hour, int reason) {
        String numbers = order + " " + pilot + " " + hour;
        edge.asks("hinders " + numbers, reason);
        if (reason != 0) {
            edge.refuses("plan " + numbers, reason);
            return;
        }
        Edge planned = edge.after("plan " + numbers);
        planned.answers("orderOf " + order + " 5", 1);
        planned.answers("orderOf " + order + " 6", pilot);
        planned.answers("orderOf " + order + " 7", hour);
    }

    // ---- promises 10 and 11

    private static void promise10And11Order() {
        Edge none = edge("addPilot 1");
        none.fails("hinders 0 0 5", NO_SUCH).fails("plan 0 0 5", NO_SUCH);
        Edge full = edge("addPilot 1, 16*order 1 1 5 0 9");
        trip(full, 0, 0, 5, 0);
        trip(full, 15, 0, 5, 0);
        for (String order : new String[] {"-1", "16", "min", "max"}) {
            full.fails("hinders " + order + " 0 5", NO_SUCH);
            full.fails("plan " + order + " 0 5", NO_SUCH);
        }
    }

    private static void promise10And11Pilot() {
        Edge none = edge("order 1 1 5 0 9");
        none.fails("hinders 0 0 5", NO_SUCH).fails("plan 0 0 5", NO_SUCH);
        Edge full = edge("6*addPilot 1, order 1 1 5 0 9");
        trip(full, 0, 0, 5, 0);
        trip(full, 0, 5, 5, 0);
        for (String pilot : new String[] {"-1", "6", "min", "max"}) {
            full.fails("hinders 0 " + pilot + " 5", NO_SUCH);
            full.fails("plan 0 " + pilot + " 5", NO_SUCH);
        }
    }

    /** No such hour goes ahead of a refusal. */
    private static void promise10And11Hour() {
        Edge edge = edge("addPilot 1, order 1 1 5 0 9");
        trip(edge, 0, 0, 0, 0);
        trip(edge, 0, 0, 999, 2);
        Edge planned = edge.after("plan 0 0 3");
        trip(planned, 0, 0, 0, 1);
        trip(planned, 0, 0, 999, 1);
        for (String hour : new String[] {"-1", "1000", "min", "max"}) {
            edge.fails("hinders 0 0 " + hour, NO_SUCH).fails("plan 0 0 " + hour, NO_SUCH);
            planned.fails("hinders 0 0 " + hour, NO_SUCH).fails("plan 0 0 " + hour, NO_SUCH);
        }
    }

    /** "Its trip takes its size plus 2 hours", outward to the sea and inward to the harbour. */
    private static void promise11EndOfATrip() {
        for (int size = 1; size <= 4; size++) {
            Edge out = edge("addPilot 4, order " + size + " 1 5 0 9");
            out.answers("plan 0 0 7", 9 + size);
            out.after("plan 0 0 7").answers("orderOf 0 8", 9 + size).answers("planOf 0 0 4", 1);
            out.after("plan 0 0 7").answers("pilot 0 6", 2 + size).answers("number 9", 2 + size);
            Edge in = edge("addPilot 4, addBoat 1, order " + size + " 0 5 0 9, run 0 0 1");
            in.answers("plan 0 0 7", 9 + size);
            in.after("plan 0 0 7").answers("planOf 0 1 4", 0);
        }
    }

    private static void promise11LastHours() {
        Edge edge = edge("addPilot 4, order 4 1 5 900 900");
        trip(edge, 0, 0, 899, 2);
        trip(edge, 0, 0, 900, 0);
        trip(edge, 0, 0, 901, 2);
        edge.answers("plan 0 0 900", 906);
    }

    /** "The reason of the latest refusal of a call is kept", with 0. */
    private static void promise11ReasonIsKept() {
        Edge edge = Edge.bare(CHECK, "addPilot 1, 2*order 1 1 5 3 9");
        edge.refuses("plan 0 0 2", 2);
        edge.after("!plan 0 0 2, plan 0 0 3").answers("refusal 1", 2).answers("refusal 0", 0);
        edge.after("!plan 0 0 2, plan 0 0 3").refuses("plan 0 0 3", 1);
    }

    // ---- the reasons of a trip

    private static void reason1OrderIsNotOpen() {
        Edge open = edge("2*addPilot 4, order 1 1 5 0 9");
        trip(open, 0, 1, 5, 0);
        trip(open.after("plan 0 0 0"), 0, 1, 5, 1);
        trip(open.after("plan 0 0 0, pass 2"), 0, 1, 5, 1);
        trip(open.after("plan 0 0 0, pass 3"), 0, 1, 5, 1);
        trip(open.after("plan 0 0 4, release 0"), 0, 1, 5, 0);
        trip(open.after("pass 9"), 0, 1, 9, 0);
        trip(open.after("pass 10"), 0, 1, 10, 1);
    }

    private static void reason2AheadOfNow() {
        Edge edge = edge("addPilot 1, order 1 1 5 3 9, pass 5");
        trip(edge, 0, 0, 3, 2);
        trip(edge, 0, 0, 4, 2);
        trip(edge, 0, 0, 5, 0);
    }

    private static void reason2FromEarliestToLatest() {
        Edge edge = edge("addPilot 1, order 1 1 5 3 9");
        trip(edge, 0, 0, 0, 2);
        trip(edge, 0, 0, 2, 2);
        trip(edge, 0, 0, 3, 0);
        trip(edge, 0, 0, 9, 0);
        trip(edge, 0, 0, 10, 2);
        trip(edge.after("putOff 0 1"), 0, 0, 10, 0);
        trip(edge.after("putOff 0 1"), 0, 0, 11, 2);
    }

    /** The window consists of 3 to 9 and 13 to 21. */
    private static void reason3NotInTheWindow() {
        Edge edge = edge("addPilot 1, order 1 1 11 3 21");
        trip(edge, 0, 0, 9, 0);
        trip(edge, 0, 0, 10, 3);
        trip(edge, 0, 0, 12, 3);
        trip(edge, 0, 0, 13, 0);
        trip(edge.after("tide 0 1"), 0, 0, 10, 0);
    }

    private static void reason4Licence() {
        for (int licence = 1; licence <= 4; licence++) {
            for (int size = 1; size <= 4; size++) {
                Edge edge = edge("addPilot " + licence + ", order " + size + " 1 5 0 9");
                trip(edge, 0, 0, 5, licence < size ? 4 : 0);
            }
        }
    }

    /** "A pilot is free from the end of the last trip .. on", without any rest here. */
    private static void reason5NotFreeBehindATrip() {
        Edge edge = edge("rule 0 0, rule 4 0, addPilot 1, order 1 1 5 6 6, order 1 0 5 0 90, "
                + "plan 0 0 6");
        trip(edge, 1, 0, 6, 5);
        trip(edge, 1, 0, 8, 5);
        trip(edge, 1, 0, 9, 0);
    }

    /** ".. or ride of the plan on". */
    private static void reason5NotFreeBehindARide() {
        Edge edge = edge("addPilot 1, addBoat 1, order 1 0 5 0 90, run 0 6 1");
        trip(edge, 0, 0, 6, 5);
        trip(edge, 0, 0, 7, 5);
        trip(edge, 0, 0, 8, 0);
    }

    /** The plan goes "one behind the other in time": nobody is free ahead of its last part. */
    private static void reason5NotFreeAheadOfThePlan() {
        Edge edge = edge("addPilot 1, addBoat 1, 2*order 1 1 5 0 90, plan 0 0 40");
        trip(edge, 1, 0, 0, 5);
        trip(edge, 1, 0, 39, 5);
        trip(edge, 1, 0, 42, 5);
        trip(edge, 1, 0, 43, 6);
        edge.refuses("run 0 42 1", 10).refuses("run 0 43 1", 11);
        edge.refuses("run 0 0 1", 10);
    }

    private static void reason6NotWhereTheTripBegins() {
        Edge edge = edge("addPilot 1, addBoat 1, order 1 1 5 0 90, order 1 0 5 0 90");
        trip(edge, 0, 0, 2, 0);
        trip(edge, 1, 0, 2, 6);
        Edge atSea = edge.after("run 0 0 1");
        trip(atSea, 0, 0, 2, 6);
        trip(atSea, 1, 0, 2, 0);
        Edge back = edge.after("run 0 0 1, run 0 2 1");
        trip(back, 0, 0, 4, 0);
        trip(back, 1, 0, 4, 6);
    }

    /** "rested from the end of the last trip on, plus the rest": a trip from 6 to 9. */
    private static void reason7NotRested() {
        Edge edge = edge("addPilot 1, order 1 1 5 6 6, order 1 0 5 0 90, plan 0 0 6");
        trip(edge, 1, 0, 9, 7);
        trip(edge, 1, 0, 14, 7);
        trip(edge, 1, 0, 15, 0);
        Edge passed = edge.after("pass 9, rule 0 7");
        trip(passed, 1, 0, 15, 7);
        trip(passed, 1, 0, 16, 0);
    }

    /** "The hours 0 to 5 of each day of 24 hours are night": begin, size and whether it is. */
    private static void reason7NightAtBothEnds() {
        int[][] trips = {
            {5, 1, 1}, {6, 1, 0}, {21, 1, 0}, {22, 1, 1}, {18, 4, 0}, {19, 4, 1}, {0, 1, 1},
            {29, 1, 1}, {30, 1, 0}, {45, 1, 0}, {46, 1, 1}, {885, 1, 0}, {886, 1, 1},
            {893, 1, 1}, {894, 1, 0}, {882, 4, 0}, {883, 4, 1}, {900, 4, 0}};
        for (int[] trip : trips) {
            Edge edge = edge("addPilot 4, order " + trip[1] + " 1 5 0 900, order 1 0 5 0 900, "
                    + "plan 0 0 " + trip[0]);
            int rested = trip[0] + trip[1] + 2 + 6 + (trip[2] == 1 ? 2 : 0);
            edge.answers("pilot 0 5", rested);
            if (rested <= 900) {
                edge.answers("hinders 1 0 " + (rested - 1), 7);
                edge.answers("hinders 1 0 " + rested, 0);
            }
        }
    }

    /** A trip by night from 0 to 3, then one by day from 14 to 17, then a ride. */
    private static void reason7OfTheLastTrip() {
        Edge edge = edge("addPilot 1, addBoat 1, order 1 1 5 0 0, order 1 0 5 0 90, "
                + "order 1 1 5 0 90, order 1 0 5 0 90, plan 0 0 0, plan 1 0 14");
        edge.answers("pilot 0 5", 23);
        trip(edge, 2, 0, 22, 7);
        trip(edge, 2, 0, 23, 0);
        Edge ridden = edge.after("run 0 17 1");
        ridden.answers("pilot 0 5", 23);
        trip(ridden, 3, 0, 22, 7);
        trip(ridden, 3, 0, 23, 0);
        edge.after("release 1").answers("pilot 0 5", 11);
    }

    /** "without a trip, always", behind a ride, too. */
    private static void reason7WithoutATrip() {
        Edge edge = edge("rule 0 24, rule 4 12, addPilot 1, addBoat 1, order 1 1 5 0 90, "
                + "order 1 0 5 0 90");
        edge.answers("pilot 0 5", 0);
        trip(edge, 0, 0, 0, 0);
        Edge ridden = edge.after("run 0 0 1");
        ridden.answers("pilot 0 5", 0);
        trip(ridden, 1, 0, 2, 0);
    }

    /** "refused for the first of these reasons that applies": each time one reason less. */
    private static void firstReasonOfATrip() {
        // All seven: pilot 0 is on a trip from 20 to 23, and too low for the planned order 1.
        String setup = "addPilot 1, addPilot 4, order 1 1 5 20 20, order 4 1 11 22 26, "
                + "plan 0 0 20, ";
        trip(edge(setup + "plan 1 1 26"), 1, 0, 21, 1);
        trip(edge(setup), 1, 0, 21, 2);
        trip(edge(setup), 1, 0, 22, 3);
        trip(edge(setup + "tide 0 9"), 1, 0, 22, 4);
        String able = "addPilot 4, order 1 1 5 20 20, order 4 1 11 22 26, plan 0 0 20, tide 0 9";
        trip(edge(able), 1, 0, 22, 5);
        trip(edge(able), 1, 0, 23, 6);
        trip(edge(able + ", order 4 0 5 22 26"), 2, 0, 23, 7);
        trip(edge(able + ", order 4 0 5 22 26, rule 0 0, rule 4 0"), 2, 0, 23, 0);
        // Ahead of now, and the tide too low.
        trip(edge("addPilot 1, order 1 1 11 0 9, pass 1"), 0, 0, 0, 2);
    }

    /**
     * "found by the rules as they are then, also for trips that were planned before; what is
     * planned keeps its beginning and its end": trips from 6 to 9 and from 15 to 18.
     */
    private static void whatIsPlannedKeepsItsHours() {
        Edge edge = edge("addPilot 1, addBoat 1, order 1 1 11 6 6, order 1 0 11 0 90, "
                + "order 1 1 11 0 90, plan 0 0 6, plan 1 0 15, run 0 20 1, run 0 30 1");
        edge.answers("pilot 0 5", 24);
        Edge other = edge.after("rule 0 24, rule 1 6, rule 3 1, tide 6 0");
        other.answers("orderOf 0 7", 6).answers("orderOf 0 8", 9).answers("orderOf 0 10", 0);
        other.answers("orderOf 1 5", 1).answers("orderOf 1 7", 15).answers("orderOf 1 8", 18);
        other.answers("planOf 0 2 2", 22).answers("boat 0 3", 32).answers("pilot 0 4", 32);
        other.answers("pilot 0 5", 42);
        other.after("rule 3 20").asks("hinders 2 0 41", 7).asks("hinders 2 0 42", 0);
        other.after("pass 18").answers("orderOf 1 5", 2).answers("pilot 0 1", 2);
        other.after("rule 0 23").answers("pilot 0 5", 41);
    }

    // ---- promise 12

    private static void promise12Boat() {
        edge("").fails("run 0 0 0", NO_SUCH);
        Edge edge = edge("3*addBoat 1");
        edge.answers("run 0 0 0", 2).answers("run 2 0 0", 2);
        edge.fails("run -1 0 0", NO_SUCH).fails("run 3 0 0", NO_SUCH);
        edge.fails("run min 0 0", NO_SUCH).fails("run max 0 0", NO_SUCH);
        edge.fails("run 3 0 1", NO_SUCH).fails("run -1 -1 -1", NO_SUCH);
        edge("addBoat 1").fails("run 1 0 0", NO_SUCH);
    }

    /** "or the hour is not from 0 to 900", which goes ahead of the pilots and of refusals. */
    private static void promise12Hour() {
        Edge edge = edge("addBoat 1");
        edge.fails("run 0 -1 0", NO_SUCH).answers("run 0 0 0", 2);
        edge.answers("run 0 900 0", 902).fails("run 0 901 0", NO_SUCH);
        edge.fails("run 0 min 0", NO_SUCH).fails("run 0 max 0", NO_SUCH);
        edge.fails("run 0 -1 1", NO_SUCH).fails("run 0 901 1", NO_SUCH);
        Edge away = edge.after("run 0 900 0");
        away.fails("run 0 901 0", NO_SUCH).refuses("run 0 900 0", 8);
        edge.after("pass 1").fails("run 0 -1 0", NO_SUCH).refuses("run 0 0 0", 2);
        Edge late = edge("addBoat 1, 18*pass 48, pass 36");
        late.answers("run 0 900 0", 902);
        late.after("pass 1").refuses("run 0 900 0", 2).fails("run 0 901 0", NO_SUCH);
    }

    /** "if the set has other bits than those of pilots", which goes ahead of refusals. */
    private static void promise12Pilots() {
        Edge none = edge("addBoat 1");
        none.answers("run 0 0 0", 2).fails("run 0 0 1", WRONG).fails("run 0 0 -1", WRONG);
        none.fails("run 0 0 min", WRONG).fails("run 0 0 max", WRONG);
        for (int pilots = 1; pilots <= 6; pilots++) {
            Edge edge = edge("addBoat 1, " + pilots + "*addPilot 1");
            edge.answers("run 0 0 " + (1 << pilots - 1), 2);
            edge.fails("run 0 0 " + (1 << pilots), WRONG);
            edge.fails("run 0 0 " + ((1 << pilots) + 1), WRONG);
        }
        Edge full = edge("addBoat 4, 6*addPilot 1");
        full.refuses("run 0 0 63", 9).fails("run 0 0 64", WRONG).fails("run 0 0 -1", WRONG);
        full.fails("run 0 0 min", WRONG).fails("run 0 0 max", WRONG);
        full.after("pass 1").fails("run 0 0 64", WRONG).refuses("run 0 0 63", 2);
    }

    /** "with a set of pilots, possibly none". */
    private static void promise12EmptySet() {
        Edge edge = edge("addBoat 1, 6*addPilot 1, run 0 0 0");
        edge.answers("boat 0 1", 1).answers("boat 0 2", 1).answers("boat 0 4", 0);
        edge.answers("number 7", 1).answers("number 8", 0).answers("pilot 0 3", 0);
        Edge one = edge("addBoat 1, 6*addPilot 1, run 0 0 32");
        one.answers("boat 0 4", 1).answers("pilot 5 3", 1).answers("pilot 4 3", 0);
        one.answers("number 7", 1).answers("number 8", 1);
    }

    /** "leads from where it is to the other place"; "free from the end of its last run on". */
    private static void promise12EndAndPlace() {
        Edge edge = edge("addBoat 1, addPilot 1, run 0 3 1");
        edge.answers("planOf 0 0 4", 1).answers("boat 0 2", 1).answers("boat 0 3", 5);
        Edge back = edge.after("run 0 7 1");
        back.answers("planOf 0 1 4", 0).answers("boat 0 2", 0).answers("boat 0 3", 9);
    }

    // ---- the reasons of a run

    private static void reason2RunAheadOfNow() {
        Edge edge = edge("addBoat 1, pass 3");
        edge.refuses("run 0 0 0", 2).refuses("run 0 2 0", 2).answers("run 0 3 0", 5);
    }

    private static void reason8BoatIsNotFree() {
        Edge edge = edge("addBoat 1, addBoat 1, run 0 3 0");
        edge.refuses("run 0 3 0", 8).refuses("run 0 4 0", 8).answers("run 0 5 0", 7);
        edge.refuses("run 0 0 0", 8);
        edge.answers("run 1 0 0", 2);
        edge.after("undo").answers("run 0 4 0", 6);
    }

    /** "there are more pilots than it has room for". */
    private static void reason9Room() {
        for (int room = 1; room <= 4; room++) {
            Edge edge = edge("addBoat " + room + ", 6*addPilot 1");
            edge.answers("run 0 0 " + ((1 << room) - 1), 2);
            edge.refuses("run 0 0 " + ((1 << room + 1) - 1), 9);
            edge.answers("run 0 0 " + ((1 << room) - 1 << 6 - room), 2);
            edge.refuses("run 0 0 " + ((1 << room + 1) - 1 << 5 - room), 9);
        }
    }

    /** A pilot under way out to the sea from 0 to 3, a boat there from 2 on. */
    private static void reason10PilotIsNotFree() {
        Edge edge = edge("addPilot 1, addPilot 1, addBoat 4, order 1 1 5 0 0, plan 0 1 0, "
                + "run 0 0 0");
        edge.refuses("run 0 2 2", 10).answers("run 0 3 2", 5).answers("run 0 2 0", 4);
        // Behind a ride: from 2 on.
        Edge ridden = edge("addPilot 1, addBoat 1, addBoat 1, run 1 0 0, run 0 1 1");
        ridden.refuses("run 1 2 1", 10).answers("run 1 3 1", 5);
    }

    private static void reason11PilotIsElsewhere() {
        Edge edge = edge("addPilot 1, addPilot 1, addBoat 4, addBoat 4");
        edge.answers("run 0 2 3", 4);
        Edge away = edge.after("run 0 0 1");
        away.refuses("run 0 2 2", 11).answers("run 0 2 1", 4).refuses("run 0 2 3", 11);
        away.refuses("run 1 2 1", 11).answers("run 1 2 2", 4).refuses("run 1 2 3", 11);
    }

    /** "A run is refused for the first of these reasons": each time one reason less. */
    private static void firstReasonOfARun() {
        // Boat 0 is under way from the harbour to the sea from 20 to 22, with pilot 0.
        String setup = "addPilot 1, addPilot 1, addBoat 1, run 0 20 1, ";
        edge(setup + "pass 22").refuses("run 0 21 3", 2);
        edge(setup + "pass 21").refuses("run 0 21 3", 8);
        Edge other = edge(setup + "addBoat 1");
        other.refuses("run 1 21 3", 9);
        Edge wide = edge(setup + "addBoat 2");
        wide.refuses("run 1 21 3", 10).refuses("run 1 22 3", 11).answers("run 1 22 2", 24);
    }

    /** "the reason 10 is looked at for all pilots, then 11 for all". */
    private static void reason10OfAllAheadOf11() {
        // Pilot 0 is at sea from 2 on, pilot 1 under way from 4 to 6; boat 2 is in the harbour.
        Edge edge = edge("2*addPilot 1, 3*addBoat 4, run 0 0 1, run 1 4 2");
        edge.refuses("run 2 5 3", 10).refuses("run 2 6 3", 11).refuses("run 2 5 1", 11);
        // The other way round: the lower pilot is not free, the higher one elsewhere.
        Edge turned = edge("2*addPilot 1, 3*addBoat 4, run 0 0 2, run 1 4 1");
        turned.refuses("run 2 5 3", 10).refuses("run 2 6 3", 11).refuses("run 2 5 2", 11);
    }
}
