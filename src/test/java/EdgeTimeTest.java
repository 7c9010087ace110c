/**
 * The boundaries of promises 24 to 27, and of the term Passing: for each the last case on this
 * side and the first one beyond it.
 */
public final class EdgeTimeTest {
    private static final Check CHECK = new Check("EdgeTimeTest");
    private static final Class<IllegalArgumentException> WRONG = IllegalArgumentException.class;
    private static final Class<IllegalStateException> TOO_LATE = IllegalStateException.class;
    private static final Class<IndexOutOfBoundsException> NO_SUCH =
            IndexOutOfBoundsException.class;
    private static final Class<ArithmeticException> NO_MEAN = ArithmeticException.class;

    /** Without any rest. */
    private static final String AWAKE = "rule 0 0, rule 4 0, ";

    public static void main(String[] args) {
        promise24Hours();
        promise24LastHour();
        promise24FirstException();
        promise24EndsByNow();
        promise24LatestAheadOfNow();
        promise24NoHours();
        promise24ReturnsWhatIsMissedByThat();
        promise24AsManyAsTheRuleTells();
        promise24OrMore();
        promise24SizeOfTheLicence();
        promise24LicenceAtMostFour();
        promise24OrderOfEnds();
        promise24LicenceCountsForTheNextTrip();
        promise25What();
        promise25OrdersInEachState();
        promise25NowAndMakings();
        promise25RunsAndRides();
        promise25HoursOfTrips();
        promise25HowOftenPutOff();
        promise25UnderWayNow();
        promise25Changes();
        promise25Characters();
        promise25RulesAndHeights();
        promise26NoSuchOrders();
        promise26LeastAndMostWait();
        promise26Mean();
        promise26OfAllOrders();
        promise27Pilot();
        promise27HourZero();
        promise27UpToTheHourBeforeNow();
        promise27LeastAndMost();
        CHECK.end();
    }

    private static Edge edge(String setup) {
        return Edge.of(CHECK, setup);
    }

    // ---- promise 24

    /** "the number of hours, 0 to 48". */
    private static void promise24Hours() {
        Edge edge = edge("pass 5");
        edge.fails("pass -1", WRONG).answers("pass 0", 0);
        edge.answers("pass 48", 0).fails("pass 49", WRONG);
        edge.fails("pass min", WRONG).fails("pass max", WRONG);
        edge.after("pass 0").answers("number 4", 5);
        edge.after("pass 48").answers("number 4", 53);
    }

    /** "if now would be later than hour 999". */
    private static void promise24LastHour() {
        Edge early = edge("19*pass 48, pass 39");
        early.answers("number 4", 951).answers("pass 48", 0);
        early.after("pass 48").answers("number 4", 999);
        Edge later = edge("19*pass 48, pass 40");
        later.answers("pass 47", 0).fails("pass 48", TOO_LATE);
        Edge last = edge("20*pass 48, pass 39");
        last.answers("number 4", 999).answers("pass 0", 0);
        last.fails("pass 1", TOO_LATE).fails("pass 48", TOO_LATE);
    }

    private static void promise24FirstException() {
        Edge last = edge("20*pass 48, pass 39");
        last.fails("pass 49", WRONG).fails("pass -1", WRONG);
        last.fails("pass min", WRONG).fails("pass max", WRONG);
    }

    /** "each trip that has ended by now": one from 2 to 5. */
    private static void promise24EndsByNow() {
        Edge edge = edge("addPilot 1, order 1 1 5 2 9, plan 0 0 2");
        edge.after("pass 4").answers("orderOf 0 5", 1).answers("number 2", 0);
        edge.after("pass 5").answers("orderOf 0 5", 2).answers("number 2", 1);
        edge.after("pass 4, pass 1").answers("orderOf 0 5", 2);
        edge.after("pass 48").answers("orderOf 0 5", 2).answers("pilot 0 1", 1);
        edge.after("pass 5, pass 5, pass 0").answers("pilot 0 1", 1).answers("pilot 0 2", 1);
    }

    /** "each open order whose latest hour is ahead of now is missed". */
    private static void promise24LatestAheadOfNow() {
        Edge edge = edge("order 1 1 5 2 9");
        edge.answers("pass 9", 0).answers("pass 10", 1).answers("pass 48", 1);
        edge.after("pass 9").answers("orderOf 0 5", 0).answers("pass 0", 0).answers("pass 1", 1);
        edge.after("pass 10").answers("orderOf 0 5", 3).answers("pass 0", 0);
        edge("order 1 1 5 0 0").answers("pass 0", 0).answers("pass 1", 1);
        Edge late = edge("order 1 1 5 900 900, 18*pass 48");
        late.answers("pass 36", 0).answers("pass 37", 1);
        // A planned one is not missed, be its latest hour long ago.
        Edge planned = edge("addPilot 1, order 1 1 5 9 9, plan 0 0 9");
        planned.answers("pass 11", 0).after("pass 11").answers("orderOf 0 5", 1);
        planned.answers("pass 12", 0).after("pass 12").answers("orderOf 0 5", 2);
    }

    /** "when 0 hours pass", nothing ends or is missed a second time. */
    private static void promise24NoHours() {
        Edge edge = edge("addPilot 1, order 1 1 5 0 0, order 1 1 5 0 2, plan 0 0 0, pass 3");
        edge.answers("number 2", 1).answers("number 3", 1);
        Edge again = edge.after("pass 0");
        again.answers("number 2", 1).answers("number 3", 1).answers("pilot 0 1", 1);
        again.answers("number 12", 6).answers("number 4", 3);
        edge("").after("pass 0").answers("number 12", 1).answers("number 4", 0);
    }

    private static void promise24ReturnsWhatIsMissedByThat() {
        Edge edge = edge("addPilot 1, 15*order 1 1 5 0 5, order 1 1 5 0 6, plan 0 0 0");
        edge.answers("pass 5", 0).answers("pass 6", 14).answers("pass 7", 15);
        edge.after("pass 6").answers("pass 0", 0).answers("pass 1", 1);
        edge("16*order 1 1 5 0 5").answers("pass 6", 16);
    }

    /** Trips of three hours to and fro, without rest; the rule tells 1 to 9 of them. */
    private static String trips(int rule, int licence, int size, int count) {
        StringBuilder calls = new StringBuilder(AWAKE).append("rule 2 ").append(rule)
                .append(", addPilot ").append(licence);
        for (int k = 0; k < count; k++) {
            calls.append(", order ").append(size).append(' ').append(1 - k % 2)
                    .append(" 5 0 90, plan ").append(k).append(" 0 ").append((size + 2) * k);
        }
        return calls.toString();
    }

    private static void licence(Edge edge, int licence, int trips) {
        edge.answers("pilot 0 0", licence).answers("pilot 0 1", trips);
    }

    /** "if there are as many as the rule tells, the licence is 1 more .., with 0 trips in it". */
    private static void promise24AsManyAsTheRuleTells() {
        for (int rule = 1; rule <= 9; rule++) {
            Edge edge = edge(trips(rule, 1, 1, rule));
            licence(edge.after("pass " + (3 * rule - 1)), 1, rule - 1);
            licence(edge.after("pass " + 3 * rule), 2, 0);
        }
    }

    /** "A licence is 1 more if there are as many trips as the rule tells, or more". */
    private static void promise24OrMore() {
        Edge edge = edge(trips(9, 1, 1, 5) + ", pass 12");
        licence(edge, 1, 4);
        licence(edge.after("pass 3"), 1, 5);
        licence(edge.after("rule 2 6, pass 3"), 1, 5);
        licence(edge.after("rule 2 5, pass 3"), 2, 0);
        licence(edge.after("rule 2 4, pass 3"), 2, 0);
        licence(edge.after("rule 2 1, pass 3"), 2, 0);
        licence(edge.after("rule 2 1"), 1, 4);
    }

    /** "a trip with a ship whose size is the licence of the pilot then counts". */
    private static void promise24SizeOfTheLicence() {
        licence(edge(trips(1, 2, 2, 1) + ", pass 4"), 3, 0);
        licence(edge(trips(1, 2, 1, 1) + ", pass 4"), 2, 0);
        licence(edge(trips(3, 2, 2, 1) + ", pass 4"), 2, 1);
        licence(edge(trips(3, 2, 1, 1) + ", pass 4"), 2, 0);
        // The first of two raises the licence; the second is below it then.
        licence(edge(trips(1, 1, 1, 2) + ", pass 6"), 2, 0);
        edge(trips(1, 1, 1, 2) + ", pass 6").answers("pilot 0 2", 2);
    }

    /** "at most 4 .. With the licence 4, trips in it are counted on." */
    private static void promise24LicenceAtMostFour() {
        licence(edge(trips(1, 3, 3, 1) + ", pass 5"), 4, 0);
        licence(edge(trips(1, 4, 4, 1) + ", pass 5"), 4, 0);
        licence(edge(trips(1, 4, 4, 1) + ", pass 6"), 4, 1);
        licence(edge(trips(1, 4, 4, 2) + ", pass 12"), 4, 2);
        licence(edge(trips(3, 4, 4, 5) + ", pass 30"), 4, 5);
        licence(edge(trips(9, 4, 4, 10) + ", 2*pass 30"), 4, 10);
    }

    /**
     * "in ascending order of their ends": the order with the higher number ends first. What counts
     * in a licence is the same in any order: no trip of a pilot is beyond the licence.
     */
    private static void promise24OrderOfEnds() {
        String setup = AWAKE + "rule 2 1, addPilot 2, ";
        Edge like = edge(setup + "order 2 0 5 0 90, order 2 1 5 0 90, plan 1 0 0, plan 0 0 4");
        licence(like.after("pass 3"), 2, 0);
        licence(like.after("pass 4"), 3, 0);
        licence(like.after("pass 4, pass 4"), 3, 0);
        licence(like.after("pass 8"), 3, 0);
        Edge less = edge(setup + "order 1 0 5 0 90, order 2 1 5 0 90, plan 1 0 0, plan 0 0 4");
        licence(less.after("pass 4"), 3, 0);
        licence(less.after("pass 7"), 3, 0);
        less.after("pass 7").answers("pilot 0 2", 2);
    }

    private static void promise24LicenceCountsForTheNextTrip() {
        Edge edge = edge(AWAKE + "rule 2 1, addPilot 1, order 1 1 5 0 0, "
                + "order 2 0 5 0 90, plan 0 0 0");
        edge.after("pass 2").refuses("plan 1 0 3", 4).refuses("serve 1", 12);
        edge.after("pass 3").answers("plan 1 0 3", 7).answers("serve 1", 3);
    }

    // ---- promise 25

    /** What is out of range: between the ranges and beyond them. */
    private static void promise25What() {
        Edge edge = edge("pass 1");
        int[] right = {0, 12, 13, 20, 24, 30, 41};
        int[] due = {0, 1, 5, 6, 2, 0, 1};
        for (int k = 0; k < right.length; k++) {
            edge.asks("number " + right[k], due[k]);
        }
        int[] wrong = {-1, 14, 19, 25, 29, 42};
        for (int what : wrong) {
            edge.fails("number " + what, WRONG);
        }
        edge.fails("number min", WRONG).fails("number max", WRONG);
    }

    private static void promise25OrdersInEachState() {
        Edge edge = edge("addPilot 1, order 1 1 5 0 0, order 1 1 5 0 2, order 1 1 5 0 9, "
                + "order 1 0 5 0 90, plan 0 0 0, plan 3 0 20");
        int[][] hoursAndNumbers = {{0, 2, 2, 0, 0}, {2, 2, 2, 0, 0}, {3, 1, 1, 1, 1},
            {9, 1, 1, 1, 1}, {10, 0, 1, 1, 2}, {22, 0, 1, 1, 2}, {23, 0, 0, 2, 2}};
        for (int[] row : hoursAndNumbers) {
            for (int state = 0; state <= 3; state++) {
                edge.after("pass " + row[0]).answers("number " + state, row[state + 1]);
            }
        }
        edge("16*order 1 1 5 0 9").answers("number 0", 16);
        edge("16*order 1 1 5 0 9, pass 10").answers("number 3", 16).answers("number 0", 0);
    }

    private static void promise25NowAndMakings() {
        edge("20*pass 48, pass 39").answers("number 4", 999);
        edge("6*addPilot 1, 3*addBoat 1").answers("number 5", 6).answers("number 6", 3);
        edge("6*addPilot 1, 3*addBoat 1, 2*undo").answers("number 6", 1);
    }

    private static void promise25RunsAndRides() {
        Edge edge = edge("6*addPilot 1, 3*addBoat 4");
        edge.answers("number 7", 0).answers("number 8", 0);
        Edge run = edge.after("run 0 0 0, run 2 0 15");
        run.answers("number 7", 2).answers("number 8", 4);
        run.after("run 2 2 3").answers("number 7", 3).answers("number 8", 6);
        run.after("undo").answers("number 7", 1).answers("number 8", 0);
        // A ride that serves counts; a released trip leaves it.
        Edge served = edge.after("order 1 0 5 0 9, serve 0");
        served.answers("number 7", 1).answers("number 8", 1);
        served.after("release 0").answers("number 7", 1).answers("number 8", 1);
    }

    /** "of orders that are planned or done". */
    private static void promise25HoursOfTrips() {
        Edge edge = edge("2*addPilot 4, order 4 1 5 0 0, order 1 1 5 9 9, order 2 1 5 0 3");
        edge.answers("number 9", 0);
        Edge planned = edge.after("plan 0 0 0, plan 1 1 9");
        planned.answers("number 9", 9);
        planned.after("pass 5").answers("number 9", 9);
        planned.after("pass 12").answers("number 9", 9).answers("number 3", 1);
        planned.after("release 1").answers("number 9", 6);
    }

    private static void promise25HowOftenPutOff() {
        Edge edge = edge("2*order 1 1 5 0 9, addPilot 1");
        edge.answers("number 10", 0);
        edge.after("2*putOff 0 1").answers("number 10", 2);
        edge.after("2*putOff 0 1, 2*putOff 1 1").answers("number 10", 4);
        edge.after("2*putOff 0 1, plan 0 0 0").answers("number 10", 2);
        edge.after("2*putOff 0 1, pass 12").answers("number 10", 2);
        edge("16*order 1 1 5 0 9, 2*putOff 15 1").answers("number 10", 2);
    }

    /** On a trip from 2 to 5, or on a ride from 3 to 5. */
    private static void promise25UnderWayNow() {
        Edge edge = edge("6*addPilot 1, addBoat 4, order 1 1 5 2 9, plan 0 0 2, run 0 3 60");
        int[] due = {0, 0, 1, 5, 5, 0};
        for (int hour = 0; hour < due.length; hour++) {
            edge.after("pass " + hour).answers("number 11", due[hour]);
        }
        edge("6*addPilot 1, 2*addBoat 4, run 0 0 15, run 1 0 48").answers("number 11", 6);
    }

    private static void promise25Changes() {
        edge("").answers("number 12", 0);
        edge("7*pass 1").answers("number 12", 7);
        edge("8*pass 1").answers("number 12", 8);
        edge("9*pass 1").answers("number 12", 8);
        edge("9*pass 1, 8*undo").answers("number 12", 0);
        edge("9*pass 1, restoreSnapshot").answers("number 12", 0);
    }

    private static void promise25Characters() {
        Edge.bare(CHECK, "").answers("number 13", 0);
        Edge.bare(CHECK, "text w").answers("number 13", 1);
        Edge full = Edge.bare(CHECK, "60*feed 119");
        full.answers("number 13", 60);
        full.after("!feed 119").answers("number 13", 60);
        full.after("!read").answers("number 13", 0);
    }

    private static void promise25RulesAndHeights() {
        for (int rule = 0; rule < 5; rule++) {
            edge("rule " + rule + " 5").answers("number " + (20 + rule), 5);
        }
        for (int tide = 0; tide < 12; tide++) {
            edge("tide " + tide + " 9").answers("number " + (30 + tide), 9);
        }
    }

    // ---- promise 26

    /** "ArithmeticException if there are no such orders": none, open ones, missed ones. */
    private static void promise26NoSuchOrders() {
        edge("").fails("meanWait", NO_MEAN);
        Edge open = edge("addPilot 1, order 1 1 5 0 9");
        open.fails("meanWait", NO_MEAN);
        open.after("pass 10").fails("meanWait", NO_MEAN);
        open.after("plan 0 0 5").asks("meanWait", 5.0);
        open.after("plan 0 0 5, pass 8").asks("meanWait", 5.0);
        open.after("plan 0 0 5, release 0").fails("meanWait", NO_MEAN);
        open.after("plan 0 0 5, undo").fails("meanWait", NO_MEAN);
    }

    private static void promise26LeastAndMostWait() {
        Edge edge = edge("addPilot 1, order 1 1 5 0 900");
        edge.after("plan 0 0 0").answers("meanWait", 0.0);
        edge.after("plan 0 0 900").answers("meanWait", 900.0);
        edge("addPilot 1, order 1 1 5 900 900, plan 0 0 900").answers("meanWait", 0.0);
    }

    /** "both converted to double". */
    private static void promise26Mean() {
        Edge edge = edge("3*addPilot 1, 4*order 1 1 5 0 90, plan 0 0 1");
        edge.answers("meanWait", 1.0);
        edge.after("plan 1 1 2").answers("meanWait", 1.5);
        edge.after("plan 1 1 2, plan 2 2 7").answers("meanWait", 10.0 / 3.0);
        edge.after("pass 4, plan 1 1 6").answers("meanWait", 3.5);
        edge.after("putOff 1 5, plan 1 1 2").answers("meanWait", 1.5);
    }

    /** Sixteen orders, which wait for 0, 3, 6 and so on up to 45 hours. */
    private static void promise26OfAllOrders() {
        Edge edge = edge(trips(9, 1, 1, 16));
        edge.answers("meanWait", 22.5).answers("number 9", 48).answers("pilot 0 6", 48);
        Edge done = edge.after("pass 48");
        done.answers("meanWait", 22.5).answers("number 9", 48).answers("number 2", 16);
        done.answers("share 0", 1.0f).answers("pilot 0 2", 16);
        edge.after("undo").answers("meanWait", 21.0).answers("number 9", 45);
    }

    // ---- promise 27

    private static void promise27Pilot() {
        edge("pass 1").fails("share 0", NO_SUCH);
        Edge full = edge("6*addPilot 1, pass 1");
        full.asks("share 0", 0.0f).asks("share 5", 0.0f);
        full.fails("share -1", NO_SUCH).fails("share 6", NO_SUCH);
        full.fails("share min", NO_SUCH).fails("share max", NO_SUCH);
    }

    /** "ArithmeticException if now is hour 0"; no such pilot goes ahead. */
    private static void promise27HourZero() {
        Edge edge = edge("addPilot 1, order 1 1 5 0 0, plan 0 0 0");
        edge.fails("share 0", NO_MEAN).fails("share 1", NO_SUCH).fails("share -1", NO_SUCH);
        edge.after("pass 0").fails("share 0", NO_MEAN);
        edge.after("pass 1").asks("share 0", 1.0f);
    }

    /** "the hours from 0 up to the one before now": a trip from 2 to 5. */
    private static void promise27UpToTheHourBeforeNow() {
        Edge edge = edge("addPilot 1, order 1 1 5 2 9, plan 0 0 2");
        int[] hours = {0, 0, 0, 1, 2, 3, 3, 3};
        for (int now = 1; now < hours.length; now++) {
            edge.after("pass " + now).answers("share 0", (float) hours[now] / (float) now);
        }
        Edge ride = edge("addPilot 1, addBoat 1, run 0 0 1, pass 2");
        ride.answers("share 0", 0.0f);
    }

    private static void promise27LeastAndMost() {
        Edge edge = edge(AWAKE + "addPilot 1, order 1 1 5 0 0, order 1 0 5 3 3, "
                + "plan 0 0 0, plan 1 0 3");
        edge.after("pass 3").answers("share 0", 1.0f);
        edge.after("pass 6").answers("share 0", 1.0f);
        edge.after("pass 7").answers("share 0", 6.0f / 7.0f);
        edge.after("20*pass 48, pass 39").answers("share 0", 6.0f / 999.0f);
        edge("addPilot 1, 20*pass 48, pass 39").answers("share 0", 0.0f);
    }
}
