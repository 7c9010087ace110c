/**
 * The boundaries of promises 32 to 34, and of the terms Undo and Exceptions: for each the last
 * case on this side and the first one beyond it.
 */
public final class EdgeUndoTest {
    private static final Check CHECK = new Check("EdgeUndoTest");
    private static final Class<IllegalStateException> NONE = IllegalStateException.class;

    /** Two pilots, a boat, a planned order and two open ones. */
    private static final String SETUP = "2*addPilot 2, addBoat 2, order 1 1 5 4 90, "
            + "order 2 0 5 9 90, order 2 1 5 2 20, plan 0 0 4";

    public static void main(String[] args) {
        promise32NothingToUndo();
        promise32EightChanges();
        promise32ForgottenStaysForgotten();
        promise32EachChange();
        promise32AlsoIfNothingIsDifferent();
        promise32WhatIsNoChange();
        promise32WhatFailsIsNoChange();
        promise32KeptStays();
        promise32OfWhatWasMade();
        promise33EmptyAndFull();
        promise33InPlaceOfAnEarlierOne();
        promise33IsNotUndone();
        promise34NoSnapshot();
        promise34IsKept();
        promise34NothingCanBeUndone();
        promise34RestoresAll();
        promise34MoreAndLessThanNow();
        promise34NothingIsLeft();
        promise34KeptStays();
        fiveHundredAndTwelveCalls();
        CHECK.end();
    }

    private static Edge edge(String setup) {
        return Edge.of(CHECK, setup);
    }

    // ---- promise 32

    private static void promise32NothingToUndo() {
        edge("").fails("undo", NONE);
        edge("pass 1").answers("undo", 0);
        edge("pass 1, undo").fails("undo", NONE).answers("number 4", 0);
        edge("pass 1, undo, pass 2").answers("undo", 0);
    }

    /** "The latest 8 can be undone". */
    private static void promise32EightChanges() {
        Edge eight = edge("8*pass 1");
        eight.answers("undo", 7);
        eight.after("7*undo").answers("undo", 0);
        eight.after("8*undo").answers("number 4", 0).fails("undo", NONE);
        Edge nine = edge("9*pass 1");
        nine.answers("undo", 7);
        nine.after("7*undo").answers("undo", 0).answers("number 4", 2);
        nine.after("8*undo").answers("number 4", 1).fails("undo", NONE);
        Edge many = edge("30*pass 1");
        for (int k = 1; k <= 8; k++) {
            many.after(k + "*undo").answers("number 4", 30 - k).answers("number 12", 8 - k);
        }
        many.after("8*undo").fails("undo", NONE);
    }

    /** "what was forgotten stays forgotten", also when others were undone. */
    private static void promise32ForgottenStaysForgotten() {
        Edge edge = edge("9*pass 1, 3*undo");
        edge.answers("number 12", 5).answers("number 4", 6);
        edge.after("5*undo").answers("number 4", 1).fails("undo", NONE);
        edge.after("3*pass 2").answers("number 12", 8);
        edge.after("3*pass 2, 8*undo").answers("number 4", 1).fails("undo", NONE);
        edge.after("4*pass 2, 8*undo").answers("number 4", 2).fails("undo", NONE);
        edge.after("5*undo, pass 5, undo").answers("number 4", 1).fails("undo", NONE);
    }

    private static void promise32EachChange() {
        String[] changes = {
            "rule 0 7", "tide 3 9", "addPilot 3", "addBoat 3", "order 1 1 5 0 9", "plan 2 1 3",
            "run 0 3 2", "serve 1", "serve 2", "serveAll", "release 0", "putOff 1 1", "pass 1",
            "pass 7", "pass 21"};
        for (String change : changes) {
            Edge edge = edge(SETUP);
            edge.changes(change).leadsBack(change + ", undo");
            edge.after(change).answers("number 12", 8);
            edge.after(change + ", undo").answers("number 12", 7);
        }
        Edge read = Edge.ofText(CHECK, SETUP, "w5;1o5@60-70;d3+1;s1");
        read.changes("read").leadsBack("read, undo");
        read.after("read").answers("number 12", 8);
    }

    /** "also if nothing is different then". */
    private static void promise32AlsoIfNothingIsDifferent() {
        String[] changes = {"rule 0 6", "tide 3 3", "pass 0"};
        for (String change : changes) {
            Edge edge = edge(SETUP);
            edge.leadsBack(change).leadsBack(change + ", undo");
            edge.after(change).answers("number 12", 8);
            edge.after("8*" + change).answers("number 12", 8);
            edge.after("8*" + change + ", 8*undo").answers("number 12", 0);
            edge.leadsBack("8*" + change + ", 8*undo");
        }
        Edge served = edge("pass 1");
        served.leadsBack("serveAll").after("serveAll").answers("number 12", 2);
        Edge read = Edge.ofText(CHECK, "pass 1", "w0");
        read.leadsBack("read").after("read").answers("number 12", 2);
    }

    /** Calls that only tell, feed, saveSnapshot and undo itself are no changes. */
    private static void promise32WhatIsNoChange() {
        String[] calls = {
            "depth 3", "orderOf 0 10", "window 1 0", "hinders 1 0 9", "serving 1 0", "urgent 0",
            "pilot 0 0", "planOf 0 0 0", "place 0 0", "placeAgain 0 0", "boat 0 0", "number 4",
            "meanWait", "feed 119", "saveSnapshot"};
        Edge edge = edge(SETUP);
        for (String call : calls) {
            edge.after(call).answers("number 12", 7);
            edge.after(call + ", undo").answers("orderOf 0 5", 0).answers("number 12", 6);
        }
        edge("addPilot 1, pass 1, share 0").answers("number 12", 2).answers("undo", 1);
        edge("3*pass 1, undo").answers("number 12", 2).answers("undo", 1);
    }

    /** What throws is no change, full though the history may be. */
    private static void promise32WhatFailsIsNoChange() {
        String[] calls = {
            "rule 0 25", "tide 12 0", "addPilot 0", "addBoat 5", "order 1 1 5 9 8", "plan 0 0 4",
            "run 0 901 0", "serve 0", "release 1", "putOff 1 49", "pass 49"};
        Edge edge = edge(SETUP + ", 2*pass 1");
        for (String call : calls) {
            edge.after("!" + call).answers("number 12", 8).answers("undo", 7);
            edge.after("!" + call + ", 2*undo").answers("number 4", 0).answers("orderOf 0 5", 1);
            edge.after("!" + call + ", 8*undo").fails("undo", NONE);
        }
        Edge text = Edge.ofText(CHECK, SETUP + ", 2*pass 1", "w1;w1;s0");
        text.after("!read").answers("number 12", 8);
        text.after("!read, 2*undo").answers("number 4", 0);
        text.after("!read, 8*undo").answers("number 5", 1).fails("undo", NONE);
    }

    /** "The input, the fault position and the refusal are neither undone nor saved, and stay." */
    private static void promise32KeptStays() {
        Edge edge = Edge.bare(CHECK, "2*pass 1, text x, !read, text w0;s9, !read, text w7");
        Edge undone = edge.after("undo");
        undone.answers("number 13", 2).answers("faultPosition", 0).answers("refusal 1", 20);
        undone.answers("refusal 0", 1).answers("read", 1);
        undone.after("read").answers("number 4", 8);
        // The text that was read is not fed again by undoing it.
        edge.after("read, undo").answers("number 13", 0).answers("number 4", 2);
    }

    private static void promise32OfWhatWasMade() {
        Edge edge = edge("addPilot 1, addBoat 1, order 1 0 5 0 9, serve 0");
        Edge undone = edge.after("4*undo");
        undone.answers("number 0", 0).answers("number 5", 0).answers("number 6", 0);
        Edge again = undone.after("addPilot 4, addBoat 4, order 4 1 7 3 8");
        int[] order = {4, 1, 7, 3, 8, 0, -1, -1, -1, 0, 6};
        for (int what = 0; what < order.length; what++) {
            again.answers("orderOf 0 " + what, order[what]);
        }
        int[] pilot = {4, 0, 0, 0, 0, 0, 0};
        for (int what = 0; what < pilot.length; what++) {
            again.answers("pilot 0 " + what, pilot[what]);
        }
        int[] boat = {4, 0, 0, 0, 0};
        for (int what = 0; what < boat.length; what++) {
            again.answers("boat 0 " + what, boat[what]);
        }
    }

    // ---- promise 33

    /** "Returns the number of orders." */
    private static void promise33EmptyAndFull() {
        Edge.bare(CHECK, "").answers("saveSnapshot", 0).after("saveSnapshot")
                .answers("restoreSnapshot", 0);
        Edge full = Edge.bare(CHECK, "6*addPilot 4, 3*addBoat 4, 16*order 1 1 5 0 90, serveAll");
        full.answers("saveSnapshot", 16).leadsBack("saveSnapshot, restoreSnapshot");
        full.leadsBack("saveSnapshot, pass 48, run 0 60 0, restoreSnapshot");
        full.after("saveSnapshot, pass 48").answers("restoreSnapshot", 16);
        Edge done = full.after("pass 48");
        done.answers("saveSnapshot", 16).leadsBack("saveSnapshot, 2*undo, restoreSnapshot");
    }

    private static void promise33InPlaceOfAnEarlierOne() {
        Edge edge = Edge.bare(CHECK, "order 1 1 5 0 9, saveSnapshot, order 2 1 5 0 9");
        edge.answers("restoreSnapshot", 1).answers("saveSnapshot", 2);
        edge.after("saveSnapshot, pass 10").answers("restoreSnapshot", 2);
        edge.leadsBack("saveSnapshot, pass 10, restoreSnapshot");
        // In place of a larger one, too.
        Edge less = edge.after("saveSnapshot, 2*undo");
        less.answers("saveSnapshot", 0).after("saveSnapshot").answers("restoreSnapshot", 0);
        less.leadsBack("saveSnapshot, order 3 1 5 0 9, restoreSnapshot");
    }

    private static void promise33IsNotUndone() {
        Edge edge = Edge.bare(CHECK, "order 1 1 5 0 9, pass 1, saveSnapshot");
        edge.after("2*undo").answers("number 0", 0).answers("restoreSnapshot", 1);
        edge.leadsBack("2*undo, restoreSnapshot");
        edge.after("pass 1, undo").answers("number 4", 1).answers("restoreSnapshot", 1);
    }

    // ---- promise 34

    private static void promise34NoSnapshot() {
        Edge.bare(CHECK, "").fails("restoreSnapshot", NONE);
        Edge.bare(CHECK, SETUP).fails("restoreSnapshot", NONE);
        Edge.bare(CHECK, SETUP + ", saveSnapshot").answers("restoreSnapshot", 3);
    }

    /** "Restores the latest snapshot, which is kept." */
    private static void promise34IsKept() {
        Edge edge = Edge.bare(CHECK, SETUP);
        edge.leadsBack("saveSnapshot, pass 9, restoreSnapshot");
        edge.leadsBack("saveSnapshot, pass 9, restoreSnapshot, serveAll, restoreSnapshot");
        edge.leadsBack("saveSnapshot, 5*restoreSnapshot");
        edge.after("saveSnapshot, restoreSnapshot, pass 9").answers("restoreSnapshot", 3);
        edge.leadsBack("saveSnapshot, restoreSnapshot, serveAll, undo");
    }

    /** "Nothing can be undone then." */
    private static void promise34NothingCanBeUndone() {
        Edge edge = Edge.bare(CHECK, SETUP + ", saveSnapshot, pass 1");
        edge.answers("undo", 7);
        edge.after("restoreSnapshot").answers("number 12", 0).fails("undo", NONE);
        edge.after("restoreSnapshot, pass 1").answers("undo", 0);
        edge.after("restoreSnapshot, pass 1, undo").fails("undo", NONE);
        edge.after("restoreSnapshot, 9*pass 1, 8*undo").answers("number 4", 1).fails("undo", NONE);
    }

    /** "Saves now, rules, heights, pilots, boats and orders with all plans". */
    private static void promise34RestoresAll() {
        String[] changes = {
            "rule 0 7", "rule 4 12", "tide 0 9", "tide 11 9", "addPilot 3", "addBoat 3",
            "order 1 1 5 0 9", "plan 2 1 3", "run 0 3 2", "serve 1", "serveAll", "release 0",
            "putOff 1 1", "pass 1", "pass 7", "pass 21", "undo", "7*undo"};
        Edge edge = Edge.bare(CHECK, SETUP + ", saveSnapshot");
        for (String change : changes) {
            edge.changes(change).leadsBack(change + ", restoreSnapshot");
        }
    }

    private static void promise34MoreAndLessThanNow() {
        Edge less = Edge.bare(CHECK, "addPilot 1, addBoat 1, order 1 1 5 0 9, saveSnapshot");
        less.leadsBack("5*addPilot 4, 2*addBoat 4, 15*order 4 0 9 1 8, serveAll, restoreSnapshot");
        Edge more = Edge.bare(CHECK, "6*addPilot 4, saveSnapshot, 6*undo");
        more.answers("number 5", 0).after("restoreSnapshot").answers("number 5", 6);
        more.after("addPilot 1, restoreSnapshot").answers("pilot 0 0", 4).answers("pilot 5 0", 4);
    }

    /** What is made behind it is as on a new object, whatever had these numbers. */
    private static void promise34NothingIsLeft() {
        String used = "rule 2 2, addPilot 1, addBoat 4, order 1 1 5 0 90, putOff 0 9, plan 0 0 0, "
                + "run 0 0 0, run 0 3 1, order 1 0 5 0 9, pass 12";
        String made = "addPilot 2, addBoat 1, order 2 0 7 3 80, order 2 1 7 3 80";
        String[] ways = {
            "saveSnapshot, " + used + ", restoreSnapshot, ", "text 1o5@0-9;d0+1;w10, read, undo, "};
        for (String way : ways) {
            Whole due = new Whole(made);
            Whole got = new Whole(way + made);
            CHECK.isTrue(made + " behind " + way, due.present().equals(got.present()));
        }
    }

    private static void promise34KeptStays() {
        Edge edge = Edge.bare(CHECK, "saveSnapshot, pass 1, text x, !read, text w0;s9, !read, "
                + "text w7, restoreSnapshot");
        edge.answers("number 4", 0).answers("number 13", 2).answers("faultPosition", 0);
        edge.answers("refusal 1", 20).answers("refusal 0", 1).answers("read", 1);
        edge.after("read").answers("number 4", 7);
        // Neither are they saved.
        Edge.bare(CHECK, "text w7, saveSnapshot, read, restoreSnapshot").answers("number 13", 0);
    }

    // ---- all

    /** "An object is used for at most 512 calls": the last of them is a change like the first. */
    private static void fiveHundredAndTwelveCalls() {
        Calls x = new Calls();
        int previous = 6;
        while (x.left() > 0) {
            int value = x.left() % 25;
            CHECK.isTrue("rule with " + x.left() + " calls left",
                    x.call("rule", 0, value).equals(previous));
            previous = value;
        }
        Calls full = new Calls();
        Script.run(full, "511*saveSnapshot");
        CHECK.isTrue("the last call", full.call("restoreSnapshot").equals(0));
    }
}
