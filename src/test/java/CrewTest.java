import java.util.NoSuchElementException;

/** Promises 19 to 23: pilots and boats. */
public final class CrewTest {
    private static final Check CHECK = new Check("CrewTest");

    public static void main(String[] args) {
        promise19Pilot();
        promise19PilotRested();
        promise19PilotWrong();
        promise20PlanOf();
        promise20PlanOfWrong();
        promise21And22Place();
        promise21And22PlaceBehindRelease();
        promise23Boat();
        CHECK.end();
    }

    /** Pilot 0: a trip from 1 to 4, a ride from 5 to 7, a trip from 21 to 25. */
    private static PilotRoster example() {
        PilotRoster x = new PilotRoster();
        x.addPilot(2);
        x.addPilot(4);
        x.addBoat(2);
        x.order(1, true, 5, 0, 90);
        x.order(2, true, 5, 0, 90);
        x.plan(0, 0, 1);
        x.run(0, 2, 0);
        x.run(0, 5, 1);
        x.plan(1, 0, 21);
        return x;
    }

    private static void numbers(PilotRoster x, int pilot, int... due) {
        for (int what = 0; what < due.length; what++) {
            CHECK.same("pilot(" + pilot + ", " + what + ")", due[what], x.pilot(pilot, what));
        }
    }

    private static void promise19Pilot() {
        PilotRoster x = example();
        numbers(x, 0, 2, 0, 0, 3, 25, 33, 7);
        numbers(x, 1, 4, 0, 0, 0, 0, 0, 0);
        x.pass(4);
        numbers(x, 0, 2, 0, 1, 3, 25, 33, 7);
        x.pass(20);
        numbers(x, 0, 2, 0, 1, 3, 25, 33, 7);
        x.pass(1);
        numbers(x, 0, 2, 1, 2, 3, 25, 33, 7);
    }

    private static void promise19PilotRested() {
        PilotRoster x = new PilotRoster();
        x.addPilot(4);
        x.rule(0, 0);
        x.rule(4, 12);
        x.order(1, true, 1, 0, 900);
        int[][] beginAndRested = {
            {6, 9}, {5, 20}, {3, 18}, {1, 16}, {21, 24}, {22, 37}, {23, 38}, {24, 39}, {29, 44},
            {30, 33}, {45, 48}, {46, 61}};
        for (int[] row : beginAndRested) {
            x.plan(0, 0, row[0]);
            CHECK.same("rested behind a trip from " + row[0], row[1], x.pilot(0, 5));
            x.release(0);
        }
    }

    private static void promise19PilotWrong() {
        PilotRoster x = example();
        CHECK.fails("pilot(0, 7)", IllegalArgumentException.class, () -> x.pilot(0, 7));
        CHECK.fails("pilot(0, -1)", IllegalArgumentException.class, () -> x.pilot(0, -1));
        CHECK.fails("pilot(2, 0)", IndexOutOfBoundsException.class, () -> x.pilot(2, 0));
        CHECK.fails("pilot(-1, 0)", IndexOutOfBoundsException.class, () -> x.pilot(-1, 0));
        CHECK.fails("pilot(2, 7)", IndexOutOfBoundsException.class, () -> x.pilot(2, 7));
    }

    private static void promise20PlanOf() {
        PilotRoster x = example();
        int[][] due = {{0, 1, 4, 0, 1}, {1, 5, 7, 0, 0}, {0, 21, 25, 1, 1}};
        for (int i = 0; i < due.length; i++) {
            for (int what = 0; what < 5; what++) {
                CHECK.same("planOf(0, " + i + ", " + what + ")", due[i][what],
                        x.planOf(0, i, what));
            }
        }
        x.addBoat(1);
        x.run(1, 0, 2);
        x.run(1, 2, 2);
        int[][] rides = {{1, 0, 2, 1, 1}, {1, 2, 4, 1, 0}};
        for (int i = 0; i < rides.length; i++) {
            for (int what = 0; what < 5; what++) {
                CHECK.same("planOf(1, " + i + ", " + what + ")", rides[i][what],
                        x.planOf(1, i, what));
            }
        }
        x.release(1);
        CHECK.fails("what was released", NoSuchElementException.class, () -> x.planOf(0, 2, 0));
    }

    private static void promise20PlanOfWrong() {
        PilotRoster x = example();
        CHECK.fails("no such place", NoSuchElementException.class, () -> x.planOf(0, 3, 0));
        CHECK.fails("no such place", NoSuchElementException.class, () -> x.planOf(0, -1, 0));
        CHECK.fails("an empty plan", NoSuchElementException.class, () -> x.planOf(1, 0, 0));
        CHECK.fails("place and what", NoSuchElementException.class, () -> x.planOf(0, 3, 5));
        CHECK.fails("what", IllegalArgumentException.class, () -> x.planOf(0, 2, 5));
        CHECK.fails("what", IllegalArgumentException.class, () -> x.planOf(0, 0, -1));
        CHECK.fails("no pilot", IndexOutOfBoundsException.class, () -> x.planOf(2, 0, 0));
        CHECK.fails("no pilot", IndexOutOfBoundsException.class, () -> x.planOf(-1, 9, 9));
    }

    private static void places(PilotRoster x, int pilot, int from, int to, int due) {
        for (int k = from; k <= to; k++) {
            CHECK.same("place(" + pilot + ", " + k + ")", due, x.place(pilot, k));
            CHECK.same("placeAgain(" + pilot + ", " + k + ")", due, x.placeAgain(pilot, k));
        }
    }

    private static void promise21And22Place() {
        PilotRoster x = example();
        x.pass(6);
        places(x, 0, 0, 0, 0);
        places(x, 0, 1, 3, -1);
        places(x, 0, 4, 4, 1);
        places(x, 0, 5, 6, -1);
        places(x, 0, 7, 20, 0);
        places(x, 0, 21, 24, -1);
        places(x, 0, 25, 25, 1);
        places(x, 0, 999, 999, 1);
        places(x, 1, 0, 0, 0);
        places(x, 1, 999, 999, 0);
        // One behind the other without an hour between.
        x.run(0, 7, 2);
        x.run(0, 9, 2);
        places(x, 1, 6, 6, 0);
        places(x, 1, 7, 10, -1);
        places(x, 1, 11, 11, 0);
        CHECK.fails("place(2, 0)", IndexOutOfBoundsException.class, () -> x.place(2, 0));
        CHECK.fails("place(-1, 0)", IndexOutOfBoundsException.class, () -> x.place(-1, 0));
        CHECK.fails("place(0, -1)", IndexOutOfBoundsException.class, () -> x.place(0, -1));
        CHECK.fails("place(0, 1000)", IndexOutOfBoundsException.class, () -> x.place(0, 1000));
        CHECK.fails("placeAgain(2, 0)", IndexOutOfBoundsException.class,
                () -> x.placeAgain(2, 0));
        CHECK.fails("placeAgain(-1, 0)", IndexOutOfBoundsException.class,
                () -> x.placeAgain(-1, 0));
        CHECK.fails("placeAgain(0, -1)", IndexOutOfBoundsException.class,
                () -> x.placeAgain(0, -1));
        CHECK.fails("placeAgain(0, 1000)", IndexOutOfBoundsException.class,
                () -> x.placeAgain(0, 1000));
    }

    private static void promise21And22PlaceBehindRelease() {
        PilotRoster x = example();
        x.release(1);
        places(x, 0, 20, 26, 0);
        x.undo();
        places(x, 0, 25, 26, 1);
        PilotRoster y = new PilotRoster();
        y.addPilot(1);
        y.addBoat(1);
        y.run(0, 0, 1);
        places(y, 0, 0, 1, -1);
        places(y, 0, 2, 3, 1);
    }

    private static void promise23Boat() {
        PilotRoster x = new PilotRoster();
        x.addPilot(1);
        x.addPilot(1);
        x.addBoat(1);
        x.addBoat(3);
        x.run(1, 4, 3);
        x.run(1, 6, 0);
        x.run(1, 20, 0);
        int[] due = {3, 3, 1, 22, 2};
        int[] idle = {1, 0, 0, 0, 0};
        for (int what = 0; what < 5; what++) {
            CHECK.same("boat(1, " + what + ")", due[what], x.boat(1, what));
            CHECK.same("boat(0, " + what + ")", idle[what], x.boat(0, what));
        }
        x.addPilot(1);
        x.order(1, false, 5, 2, 3);
        x.serve(0);
        int[] served = {1, 1, 1, 2, 1};
        for (int what = 0; what < 5; what++) {
            CHECK.same("boat(0, " + what + ") then", served[what], x.boat(0, what));
        }
        CHECK.fails("boat(0, 5)", IllegalArgumentException.class, () -> x.boat(0, 5));
        CHECK.fails("boat(0, -1)", IllegalArgumentException.class, () -> x.boat(0, -1));
        CHECK.fails("boat(2, 0)", IndexOutOfBoundsException.class, () -> x.boat(2, 0));
        CHECK.fails("boat(-1, 0)", IndexOutOfBoundsException.class, () -> x.boat(-1, 0));
        CHECK.fails("boat(2, 5)", IndexOutOfBoundsException.class, () -> x.boat(2, 5));
    }
}
