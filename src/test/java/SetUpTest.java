import java.util.NoSuchElementException;

/** Promises 1 to 9: rules, tides, pilots, boats, orders. */
public final class SetUpTest {
    private static final Check CHECK = new Check("SetUpTest");

    public static void main(String[] args) {
        promise1NewObject();
        promise2Rule();
        promise2RulesCountWhenApplied();
        promise3Tide();
        promise4Depth();
        promise5AddPilot();
        promise6AddBoat();
        promise7Order();
        promise7OrderWrong();
        promise8OrderOf();
        promise8OrderOfPlan();
        promise9Window();
        promise9WindowOfAnyState();
        CHECK.end();
    }

    private static void promise1NewObject() {
        PilotRoster x = new PilotRoster();
        for (int what = 0; what <= 13; what++) {
            CHECK.same("number(" + what + ")", 0, x.number(what));
        }
        int[] rules = {6, 2, 3, 10, 2};
        for (int k = 0; k < rules.length; k++) {
            CHECK.same("number(" + (20 + k) + ")", rules[k], x.number(20 + k));
        }
        int[] heights = {0, 1, 2, 3, 4, 5, 6, 5, 4, 3, 2, 1};
        for (int k = 0; k < heights.length; k++) {
            CHECK.same("number(" + (30 + k) + ")", heights[k], x.number(30 + k));
        }
        CHECK.fails("orderOf(0, 0)", IndexOutOfBoundsException.class, () -> x.orderOf(0, 0));
        CHECK.fails("pilot(0, 0)", IndexOutOfBoundsException.class, () -> x.pilot(0, 0));
        CHECK.fails("boat(0, 0)", IndexOutOfBoundsException.class, () -> x.boat(0, 0));
        PilotRoster other = new PilotRoster();
        other.tide(0, 9);
        other.rule(0, 1);
        CHECK.same("another object's height", 0, x.number(30));
        CHECK.same("a new object's height", 0, new PilotRoster().number(30));
        CHECK.same("a new object's rule", 6, new PilotRoster().number(20));
    }

    private static void promise2Rule() {
        int[] least = {0, 1, 1, 1, 0};
        int[] most = {24, 6, 9, 30, 12};
        int[] first = {6, 2, 3, 10, 2};
        PilotRoster x = new PilotRoster();
        for (int k = 0; k < 5; k++) {
            int what = k;
            CHECK.same("rule to the least", first[k], x.rule(k, least[k]));
            CHECK.same("rule to the most", least[k], x.rule(k, most[k]));
            CHECK.fails("rule below", IllegalArgumentException.class,
                    () -> x.rule(what, least[what] - 1));
            CHECK.fails("rule above", IllegalArgumentException.class,
                    () -> x.rule(what, most[what] + 1));
            CHECK.same("rule afterwards", most[k], x.number(20 + k));
        }
        CHECK.same("changes", 8, x.number(12));
        CHECK.fails("rule(-1, 1)", IllegalArgumentException.class, () -> x.rule(-1, 1));
        CHECK.fails("rule(5, 1)", IllegalArgumentException.class, () -> x.rule(5, 1));
        CHECK.fails("rule(0, min)", IllegalArgumentException.class,
                () -> x.rule(0, Integer.MIN_VALUE));
        CHECK.fails("rule(max, 1)", IllegalArgumentException.class,
                () -> x.rule(Integer.MAX_VALUE, 1));
    }

    private static void promise2RulesCountWhenApplied() {
        PilotRoster x = new PilotRoster();
        x.addPilot(1);
        x.addBoat(1);
        x.order(1, true, 1, 6, 6);
        x.plan(0, 0, 6);
        CHECK.same("rested by day", 15, x.pilot(0, 5));
        x.rule(0, 10);
        CHECK.same("rested by the new rest", 19, x.pilot(0, 5));
        CHECK.same("a run of 2 hours", 2, x.run(0, 0, 0));
        x.rule(1, 6);
        CHECK.same("what is planned keeps its end", 2, x.boat(0, 3));
        CHECK.same("a run of 6 hours", 8, x.run(0, 2, 0));
        x.rule(4, 12);
        CHECK.same("no night, no rest for it", 19, x.pilot(0, 5));
    }

    private static void promise3Tide() {
        PilotRoster x = new PilotRoster();
        CHECK.same("tide(0, 9)", 0, x.tide(0, 9));
        CHECK.same("tide(0, 0)", 9, x.tide(0, 0));
        CHECK.same("tide(11, 7)", 1, x.tide(11, 7));
        CHECK.same("tide(6, 6)", 6, x.tide(6, 6));
        CHECK.same("changes", 4, x.number(12));
        CHECK.same("height 11", 7, x.number(41));
        CHECK.fails("tide(-1, 0)", IllegalArgumentException.class, () -> x.tide(-1, 0));
        CHECK.fails("tide(12, 0)", IllegalArgumentException.class, () -> x.tide(12, 0));
        CHECK.fails("tide(0, -1)", IllegalArgumentException.class, () -> x.tide(0, -1));
        CHECK.fails("tide(0, 10)", IllegalArgumentException.class, () -> x.tide(0, 10));
        CHECK.same("changes", 4, x.number(12));
        CHECK.same("height 0", 0, x.number(30));
    }

    private static void promise4Depth() {
        PilotRoster x = new PilotRoster();
        CHECK.same("depth(0)", 10, x.depth(0));
        CHECK.same("depth(6)", 16, x.depth(6));
        CHECK.same("depth(11)", 11, x.depth(11));
        CHECK.same("depth(12)", 10, x.depth(12));
        CHECK.same("depth(999)", 13, x.depth(999));
        x.rule(3, 1);
        x.tide(3, 9);
        CHECK.same("depth(15)", 10, x.depth(15));
        CHECK.fails("depth(-1)", IndexOutOfBoundsException.class, () -> x.depth(-1));
        CHECK.fails("depth(1000)", IndexOutOfBoundsException.class, () -> x.depth(1000));
        CHECK.fails("depth(min)", IndexOutOfBoundsException.class,
                () -> x.depth(Integer.MIN_VALUE));
        CHECK.same("changes", 2, x.number(12));
    }

    private static void promise5AddPilot() {
        PilotRoster x = new PilotRoster();
        CHECK.fails("addPilot(0)", IllegalArgumentException.class, () -> x.addPilot(0));
        CHECK.fails("addPilot(5)", IllegalArgumentException.class, () -> x.addPilot(5));
        for (int k = 0; k < 6; k++) {
            int licence = k % 4 + 1;
            CHECK.same("addPilot", k, x.addPilot(licence));
            CHECK.same("licence", licence, x.pilot(k, 0));
            CHECK.same("trips in it", 0, x.pilot(k, 1));
            CHECK.same("place", 0, x.place(k, 0));
        }
        CHECK.fails("a seventh pilot", IllegalStateException.class, () -> x.addPilot(1));
        CHECK.fails("a seventh pilot without licence", IllegalArgumentException.class,
                () -> x.addPilot(0));
        CHECK.same("pilots", 6, x.number(5));
        CHECK.same("changes", 6, x.number(12));
    }

    private static void promise6AddBoat() {
        PilotRoster x = new PilotRoster();
        CHECK.fails("addBoat(0)", IllegalArgumentException.class, () -> x.addBoat(0));
        CHECK.fails("addBoat(5)", IllegalArgumentException.class, () -> x.addBoat(5));
        CHECK.same("addBoat(1)", 0, x.addBoat(1));
        CHECK.same("addBoat(4)", 1, x.addBoat(4));
        CHECK.same("addBoat(2)", 2, x.addBoat(2));
        CHECK.same("room of 1", 4, x.boat(1, 0));
        CHECK.fails("a fourth boat", IllegalStateException.class, () -> x.addBoat(1));
        CHECK.fails("a fourth boat without room", IllegalArgumentException.class,
                () -> x.addBoat(0));
        CHECK.same("boats", 3, x.number(6));
        CHECK.same("changes", 3, x.number(12));
    }

    private static void promise7Order() {
        PilotRoster x = new PilotRoster();
        CHECK.same("the least order", 0, x.order(1, false, 1, 0, 0));
        CHECK.same("the most order", 1, x.order(4, true, 30, 900, 900));
        for (int k = 2; k < 16; k++) {
            CHECK.same("order", k, x.order(2, true, 5, 3, 8));
        }
        CHECK.fails("a seventeenth order", IllegalStateException.class,
                () -> x.order(2, true, 5, 3, 8));
        CHECK.fails("a seventeenth order, out of range", IllegalArgumentException.class,
                () -> x.order(5, true, 5, 3, 8));
        CHECK.same("open orders", 16, x.number(0));
        CHECK.same("changes", 8, x.number(12));
    }

    private static void promise7OrderWrong() {
        PilotRoster x = new PilotRoster();
        x.pass(5);
        int[][] wrong = {
            {0, 5, 6, 7}, {5, 5, 6, 7}, {1, 0, 6, 7}, {1, 31, 6, 7}, {1, 5, 4, 7}, {1, 5, 6, 5},
            {1, 5, 6, 901}, {1, 5, 901, 901}, {1, 5, -1, 7}, {-1, 5, 6, 7}, {1, -5, 6, 7},
            {Integer.MAX_VALUE, 5, 6, 7}, {1, 5, Integer.MIN_VALUE, 7},
            {1, 5, 6, Integer.MAX_VALUE}};
        for (int[] row : wrong) {
            CHECK.fails("order out of range", IllegalArgumentException.class,
                    () -> x.order(row[0], true, row[1], row[2], row[3]));
        }
        CHECK.same("orders", 0, x.number(0));
        CHECK.same("an order from now on", 0, x.order(1, true, 5, 5, 5));
        CHECK.same("changes", 2, x.number(12));
    }

    private static void promise8OrderOf() {
        PilotRoster x = new PilotRoster();
        x.order(3, true, 12, 1, 20);
        x.order(2, false, 11, 4, 9);
        int[] outward = {3, 1, 12, 1, 20, 0, -1, -1, -1, 0, 10};
        int[] inward = {2, 0, 11, 4, 9, 0, -1, -1, -1, 0, 5};
        for (int what = 0; what <= 10; what++) {
            CHECK.same("orderOf(0, " + what + ")", outward[what], x.orderOf(0, what));
            CHECK.same("orderOf(1, " + what + ")", inward[what], x.orderOf(1, what));
        }
        CHECK.fails("orderOf(2, 0)", IndexOutOfBoundsException.class, () -> x.orderOf(2, 0));
        CHECK.fails("orderOf(-1, 0)", IndexOutOfBoundsException.class, () -> x.orderOf(-1, 0));
        CHECK.fails("orderOf(0, 11)", IllegalArgumentException.class, () -> x.orderOf(0, 11));
        CHECK.fails("orderOf(0, -1)", IllegalArgumentException.class, () -> x.orderOf(0, -1));
        CHECK.fails("orderOf(2, 11)", IndexOutOfBoundsException.class, () -> x.orderOf(2, 11));
    }

    private static void promise8OrderOfPlan() {
        PilotRoster x = new PilotRoster();
        x.addPilot(4);
        x.addPilot(4);
        x.order(3, true, 5, 2, 9);
        x.putOff(0, 3);
        x.plan(0, 1, 4);
        int[] planned = {1, 1, 4, 9, 1};
        for (int k = 0; k < planned.length; k++) {
            CHECK.same("planned " + (5 + k), planned[k], x.orderOf(0, 5 + k));
        }
        CHECK.same("latest", 12, x.orderOf(0, 4));
        x.pass(9);
        int[] done = {2, 1, 4, 9, 1};
        for (int k = 0; k < done.length; k++) {
            CHECK.same("done " + (5 + k), done[k], x.orderOf(0, 5 + k));
        }
        x.order(1, true, 5, 9, 9);
        x.pass(1);
        int[] missed = {3, -1, -1, -1, 0};
        for (int k = 0; k < missed.length; k++) {
            CHECK.same("missed " + (5 + k), missed[k], x.orderOf(1, 5 + k));
        }
    }

    private static void promise9Window() {
        PilotRoster x = new PilotRoster();
        // Depths of 12 and more: the hours 2 to 10 of each tide; a trip of 5 hours: from 2 to 6.
        x.order(3, true, 12, 1, 20);
        CHECK.same("window(0, 0)", 2, x.window(0, 0));
        CHECK.same("window(0, 2)", 2, x.window(0, 2));
        CHECK.same("window(0, 6)", 6, x.window(0, 6));
        CHECK.same("window(0, 7)", 14, x.window(0, 7));
        CHECK.same("window(0, 18)", 18, x.window(0, 18));
        CHECK.fails("window(0, 19)", NoSuchElementException.class, () -> x.window(0, 19));
        CHECK.fails("window(0, 999)", NoSuchElementException.class, () -> x.window(0, 999));
        CHECK.fails("window(0, 1000)", IndexOutOfBoundsException.class, () -> x.window(0, 1000));
        CHECK.fails("window(0, -1)", IndexOutOfBoundsException.class, () -> x.window(0, -1));
        CHECK.fails("window(1, 0)", IndexOutOfBoundsException.class, () -> x.window(1, 0));
        CHECK.fails("window(-1, 0)", IndexOutOfBoundsException.class, () -> x.window(-1, 0));
        CHECK.fails("window(1, 1000)", IndexOutOfBoundsException.class, () -> x.window(1, 1000));
        x.order(1, true, 30, 0, 900);
        CHECK.fails("no window", NoSuchElementException.class, () -> x.window(1, 0));
        CHECK.same("hours of no window", 0, x.orderOf(1, 10));
        x.order(4, true, 10, 900, 900);
        CHECK.same("the last hour", 900, x.window(2, 900));
        CHECK.fails("behind the last hour", NoSuchElementException.class, () -> x.window(2, 901));
        // All twelve hours are searched: only hour 11 of the tide begins a deep trip.
        PilotRoster y = new PilotRoster();
        for (int k = 0; k < 12; k++) {
            y.tide(k, k == 11 || k < 2 ? 9 : 0);
        }
        y.order(1, true, 19, 0, 100);
        CHECK.same("window of hour 11", 11, y.window(0, 0));
        CHECK.same("window of hour 23", 23, y.window(0, 12));
        CHECK.same("hours of it", 8, y.orderOf(0, 10));
    }

    private static void promise9WindowOfAnyState() {
        PilotRoster x = new PilotRoster();
        x.addPilot(4);
        x.order(1, true, 5, 0, 3);
        x.order(1, true, 5, 0, 3);
        x.plan(0, 0, 0);
        CHECK.same("planned", 1, x.window(0, 1));
        x.pass(9);
        CHECK.same("done, ahead of now", 0, x.window(0, 0));
        CHECK.same("missed, ahead of now", 2, x.window(1, 2));
        CHECK.same("hours of it", 4, x.orderOf(1, 10));
        x.rule(3, 2);
        CHECK.same("hours by the new depth", 1, x.orderOf(1, 10));
        CHECK.same("window by the new depth", 3, x.window(1, 0));
        x.tide(3, 0);
        CHECK.fails("no window by the new height", NoSuchElementException.class,
                () -> x.window(1, 0));
    }
}
