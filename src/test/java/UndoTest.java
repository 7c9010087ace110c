import java.util.NoSuchElementException;

/** Promises 32 to 34: undo, snapshots. */
public final class UndoTest {
    private static final Check CHECK = new Check("UndoTest");

    public static void main(String[] args) {
        promise32Undo();
        promise32WhatIsNoChange();
        promise32OfForgottenChanges();
        promise33SaveSnapshot();
        promise34RestoreSnapshot();
        promise34RestoresAll();
        promise34NothingIsLeft();
        promise34NumbersOfTheSnapshot();
        CHECK.end();
    }

    /** All that can be asked of the state, without what is neither undone nor saved. */
    private static String told(PilotRoster x) {
        StringBuilder all = new StringBuilder();
        for (int what = 0; what <= 41; what++) {
            if (what <= 11 || what >= 20 && what <= 24 || what >= 30) {
                all.append(x.number(what)).append(' ');
            }
        }
        int orders = x.number(0) + x.number(1) + x.number(2) + x.number(3);
        for (int order = 0; order < orders; order++) {
            for (int what = 0; what <= 10; what++) {
                all.append(x.orderOf(order, what)).append(' ');
            }
        }
        for (int pilot = 0; pilot < x.number(5); pilot++) {
            for (int what = 0; what <= 6; what++) {
                all.append(x.pilot(pilot, what)).append(' ');
            }
            for (int i = 0; i < x.pilot(pilot, 3); i++) {
                for (int what = 0; what <= 4; what++) {
                    all.append(x.planOf(pilot, i, what)).append(' ');
                }
            }
        }
        for (int boat = 0; boat < x.number(6); boat++) {
            for (int what = 0; what <= 4; what++) {
                all.append(x.boat(boat, what)).append(' ');
            }
        }
        return all.toString();
    }

    private static PilotRoster example() {
        PilotRoster x = new PilotRoster();
        x.addPilot(2);
        x.addPilot(2);
        x.addBoat(2);
        x.order(1, true, 5, 4, 90);
        x.order(2, false, 5, 9, 90);
        x.order(2, true, 5, 2, 20);
        x.plan(0, 0, 4);
        return x;
    }

    private static void promise32Undo() {
        PilotRoster x = new PilotRoster();
        CHECK.fails("nothing to undo", IllegalStateException.class, () -> x.undo());
        x.rule(0, 7);
        x.tide(3, 9);
        CHECK.same("undo", 1, x.undo());
        CHECK.same("height", 3, x.number(33));
        CHECK.same("rule", 7, x.number(20));
        CHECK.same("undo", 0, x.undo());
        CHECK.same("rule", 6, x.number(20));
        CHECK.fails("nothing to undo", IllegalStateException.class, () -> x.undo());
        x.addPilot(1);
        x.order(1, true, 5, 0, 9);
        x.plan(0, 0, 0);
        x.undo();
        x.undo();
        x.undo();
        CHECK.same("a pilot again", 0, x.addPilot(2));
        CHECK.same("with an empty plan", 0, x.pilot(0, 3));
        CHECK.same("an order again", 0, x.order(2, true, 5, 0, 9));
        CHECK.same("which is open", 0, x.orderOf(0, 5));
        CHECK.same("without a pilot", -1, x.orderOf(0, 6));
    }

    private static void promise32WhatIsNoChange() {
        PilotRoster x = example();
        CHECK.same("changes", 7, x.number(12));
        x.rule(0, 6);
        CHECK.same("a rule that stays as it is", 8, x.number(12));
        x.undo();
        x.pass(0);
        x.undo();
        x.serving(1, 0);
        x.hinders(1, 0, 9);
        x.saveSnapshot();
        CHECK.fails("refused", UnsupportedOperationException.class, () -> x.serve(0));
        CHECK.fails("wrong", IllegalArgumentException.class, () -> x.rule(9, 9));
        x.feed('w');
        CHECK.same("no changes", 7, x.number(12));
        x.undo();
        CHECK.same("the plan is undone", 0, x.orderOf(0, 5));
        CHECK.same("the input stays", 1, x.number(13));
    }

    private static void promise32OfForgottenChanges() {
        PilotRoster x = new PilotRoster();
        for (int k = 1; k <= 12; k++) {
            x.pass(k);
            CHECK.same("changes", Math.min(k, 8), x.number(12));
        }
        for (int k = 7; k >= 3; k--) {
            CHECK.same("undo", k, x.undo());
        }
        CHECK.same("now", 28, x.number(4));
        x.pass(1);
        CHECK.same("changes", 4, x.number(12));
        CHECK.same("undo", 3, x.undo());
        CHECK.same("undo", 2, x.undo());
        CHECK.same("undo", 1, x.undo());
        CHECK.same("undo", 0, x.undo());
        CHECK.same("now", 10, x.number(4));
        CHECK.fails("what was forgotten", IllegalStateException.class, () -> x.undo());
    }

    private static void promise33SaveSnapshot() {
        PilotRoster x = new PilotRoster();
        CHECK.same("saveSnapshot", 0, x.saveSnapshot());
        x.order(1, true, 5, 0, 9);
        x.order(1, true, 5, 0, 9);
        CHECK.same("saveSnapshot", 2, x.saveSnapshot());
        x.undo();
        CHECK.same("changes", 1, x.number(12));
        CHECK.same("the later one counts", 2, x.restoreSnapshot());
        CHECK.same("orders", 2, x.number(0));
    }

    private static void promise34RestoreSnapshot() {
        PilotRoster x = new PilotRoster();
        x.rule(0, 7);
        CHECK.fails("no snapshot", IllegalStateException.class, () -> x.restoreSnapshot());
        CHECK.same("changes", 1, x.number(12));
        x.saveSnapshot();
        x.order(1, true, 5, 0, 9);
        CHECK.same("restoreSnapshot", 0, x.restoreSnapshot());
        CHECK.same("changes", 0, x.number(12));
        CHECK.fails("nothing to undo", IllegalStateException.class, () -> x.undo());
        CHECK.same("orders", 0, x.number(0));
        x.order(2, true, 5, 0, 9);
        CHECK.same("an order", 2, x.orderOf(0, 0));
        CHECK.same("the snapshot is kept", 0, x.restoreSnapshot());
        CHECK.same("orders", 0, x.number(0));
        CHECK.same("rule", 7, x.number(20));
    }

    private static void promise34RestoresAll() {
        PilotRoster x = example();
        x.run(0, 3, 2);
        x.rule(1, 5);
        x.tide(2, 2);
        x.pass(5);
        x.putOff(1, 3);
        String saved = told(x);
        CHECK.same("saveSnapshot", 3, x.saveSnapshot());
        x.pass(40);
        x.serveAll();
        x.rule(0, 9);
        x.rule(3, 1);
        x.tide(7, 0);
        x.addPilot(1);
        x.addBoat(4);
        x.order(1, true, 1, 50, 60);
        x.run(0, 60, 0);
        CHECK.isTrue("much is different", !told(x).equals(saved));
        CHECK.same("restoreSnapshot", 3, x.restoreSnapshot());
        CHECK.isTrue("all is as it was", told(x).equals(saved));
        x.pass(30);
        x.restoreSnapshot();
        CHECK.isTrue("all is as it was again", told(x).equals(saved));
    }

    /** Two pilots, a boat and two orders in use: a trip under way, put off, runs and a ride. */
    private static void use(PilotRoster x) {
        x.addPilot(1);
        x.addPilot(2);
        x.addBoat(4);
        x.rule(2, 2);
        x.order(2, true, 5, 0, 90);
        x.order(1, true, 5, 0, 90);
        x.putOff(0, 9);
        x.plan(0, 1, 0);
        x.plan(1, 0, 3);
        x.run(0, 0, 0);
        x.run(0, 4, 2);
        x.run(0, 6, 0);
        x.pass(5);
    }

    private static void promise34NothingIsLeft() {
        PilotRoster x = new PilotRoster();
        String empty = told(x);
        x.saveSnapshot();
        use(x);
        CHECK.same("restoreSnapshot", 0, x.restoreSnapshot());
        CHECK.isTrue("it is empty", told(x).equals(empty));
        CHECK.fails("nothing is urgent", NoSuchElementException.class,
                () -> x.urgent(0));
        CHECK.fails("no trips", ArithmeticException.class, () -> x.meanWait());
        x.order(1, false, 7, 0, 80);
        CHECK.fails("nobody is left to serve", NoSuchElementException.class,
                () -> x.serving(0, 0));
        x.addPilot(2);
        CHECK.fails("no boat is left to serve", NoSuchElementException.class,
                () -> x.serving(0, 0));
        x.addBoat(3);
        x.addPilot(3);
        x.order(3, true, 8, 1, 90);
        PilotRoster y = new PilotRoster();
        y.order(1, false, 7, 0, 80);
        y.addPilot(2);
        y.addBoat(3);
        y.addPilot(3);
        y.order(3, true, 8, 1, 90);
        CHECK.isTrue("as made on a new object", told(x).equals(told(y)));
        CHECK.same("a ride", 2, x.serving(0, 0));
    }

    private static void promise34NumbersOfTheSnapshot() {
        PilotRoster x = new PilotRoster();
        x.addPilot(1);
        x.addBoat(4);
        x.order(3, true, 12, 2, 70);
        String saved = told(x);
        x.saveSnapshot();
        x.undo();
        x.undo();
        x.undo();
        x.addPilot(4);
        x.addBoat(1);
        x.order(4, false, 5, 1, 60);
        x.putOff(0, 3);
        x.serve(0);
        x.pass(20);
        CHECK.same("restoreSnapshot", 1, x.restoreSnapshot());
        CHECK.isTrue("the numbers of the snapshot", told(x).equals(saved));
    }
}
