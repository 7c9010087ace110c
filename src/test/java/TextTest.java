import java.util.NoSuchElementException;

/** Promises 28 to 31: texts. */
public final class TextTest {
    private static final Check CHECK = new Check("TextTest");

    public static void main(String[] args) {
        promise28Feed();
        promise29ReadEachItem();
        promise29ReadAllOrNone();
        promise29ReadIsOneChange();
        promise29LongestTexts();
        promise29RefusedItems();
        promise29OtherExceptions();
        promise30FaultPosition();
        promise30FaultPositionIsKept();
        promise31Refusal();
        CHECK.end();
    }

    private static void feed(PilotRoster x, String text) {
        for (int k = 0; k < text.length(); k++) {
            x.feed(text.charAt(k));
        }
    }

    private static int read(PilotRoster x, String text) {
        feed(x, text);
        return x.read();
    }

    private static void fault(PilotRoster x, String text, int due) {
        int changes = x.number(12);
        CHECK.fails("read of " + text, IllegalArgumentException.class, () -> read(x, text));
        CHECK.same("fault position of " + text, due, x.faultPosition());
        CHECK.same("the input behind " + text, 0, x.number(13));
        CHECK.same("changes behind " + text, changes, x.number(12));
    }

    private static void refused(PilotRoster x, String text, int reason, int item) {
        int changes = x.number(12);
        int open = x.number(0);
        int now = x.number(4);
        CHECK.fails("read of " + text, UnsupportedOperationException.class,
                () -> read(x, text));
        CHECK.same("reason of " + text, reason, x.refusal(true));
        CHECK.same("item of " + text, item, x.refusal(false));
        CHECK.same("the input behind " + text, 0, x.number(13));
        CHECK.same("changes behind " + text, changes, x.number(12));
        CHECK.same("open orders behind " + text, open, x.number(0));
        CHECK.same("now behind " + text, now, x.number(4));
    }

    private static void promise28Feed() {
        PilotRoster x = new PilotRoster();
        for (int k = 1; k <= 60; k++) {
            CHECK.same("feed", k, x.feed((char) (k * 1000)));
        }
        CHECK.fails("feed of too much", IllegalStateException.class, () -> x.feed('w'));
        CHECK.same("characters", 60, x.number(13));
        CHECK.same("changes", 0, x.number(12));
        CHECK.fails("read", IllegalArgumentException.class, () -> x.read());
        CHECK.same("feed", 1, x.feed('w'));
    }

    private static void promise29ReadEachItem() {
        PilotRoster x = new PilotRoster();
        x.addPilot(4);
        CHECK.same("two orders", 2, read(x, "4o5@3-20;1i12@010-900"));
        int[] outward = {4, 1, 5, 3, 20, 0};
        int[] inward = {1, 0, 12, 10, 900, 0};
        for (int what = 0; what < 6; what++) {
            CHECK.same("orderOf(0, " + what + ")", outward[what], x.orderOf(0, what));
            CHECK.same("orderOf(1, " + what + ")", inward[what], x.orderOf(1, what));
        }
        CHECK.same("serve", 1, read(x, "s0"));
        CHECK.same("planned", 3, x.orderOf(0, 7));
        CHECK.same("put off", 1, read(x, "d001+48"));
        CHECK.same("latest", 900, x.orderOf(1, 4));
        CHECK.same("how often", 1, x.orderOf(1, 9));
        CHECK.same("pass", 1, read(x, "w9"));
        CHECK.same("now", 9, x.number(4));
        CHECK.same("done", 2, x.orderOf(0, 5));
        CHECK.same("pass 0", 1, read(x, "w0"));
        CHECK.same("four of a kind", 4, read(x, "2o5@9-9;3i5@9-9;w1;w000"));
        CHECK.same("missed", 2, x.number(3));
        CHECK.fails("no fault", NoSuchElementException.class, () -> x.faultPosition());
        CHECK.fails("no refusal", NoSuchElementException.class, () -> x.refusal(true));
    }

    private static void promise29ReadAllOrNone() {
        PilotRoster x = new PilotRoster();
        x.addPilot(1);
        x.addBoat(1);
        x.order(1, false, 5, 2, 9);
        refused(x, "1o5@3-9;s0;d1+9;w5;s0", 1, 4);
        CHECK.same("the plan is empty", 0, x.pilot(0, 3));
        CHECK.same("no run", 0, x.boat(0, 1));
        CHECK.same("no trips", 0, x.pilot(0, 2));
        CHECK.same("nothing put off", 0, x.number(10));
        CHECK.same("all of it", 4, read(x, "1o5@3-9;s0;d1+9;w5"));
        CHECK.same("the plan", 2, x.pilot(0, 3));
        CHECK.same("a run", 1, x.boat(0, 1));
        CHECK.same("a trip", 1, x.pilot(0, 2));
        CHECK.same("put off", 1, x.number(10));
    }

    private static void promise29ReadIsOneChange() {
        PilotRoster x = new PilotRoster();
        for (int k = 0; k < 7; k++) {
            x.pass(1);
        }
        CHECK.same("read", 3, read(x, "w1;1o5@9-9;w1"));
        CHECK.same("changes", 8, x.number(12));
        refused(x, "w1;w49", 20, 1);
        refused(x, "s9", 20, 0);
        CHECK.same("undo", 7, x.undo());
        CHECK.same("now", 7, x.number(4));
        CHECK.same("orders", 0, x.number(0));
        for (int k = 6; k >= 0; k--) {
            CHECK.same("undo", k, x.undo());
            CHECK.same("now", k, x.number(4));
        }
    }

    private static void promise29LongestTexts() {
        PilotRoster x = new PilotRoster();
        CHECK.same("twenty items", 20,
                read(x, "w1;w1;w1;w1;w1;w1;w1;w1;w1;w1;w1;w1;w1;w1;w1;w1;w1;w1;w1;w1"));
        CHECK.same("now", 20, x.number(4));
        CHECK.same("sixty characters", 5,
                read(x, "4i030@100-200;4o030@100-200;3o030@100-200;2i030@200-300;w001"));
        CHECK.same("open", 4, x.number(0));
        fault(x, "w1;".repeat(20), 60);
    }

    private static void promise29RefusedItems() {
        PilotRoster x = new PilotRoster();
        x.addPilot(1);
        x.order(1, true, 5, 0, 30);
        x.order(2, true, 5, 0, 30);
        refused(x, "s1", 12, 0);
        refused(x, "w1;s1", 12, 1);
        refused(x, "s0;s0", 1, 1);
        refused(x, "d0+1;d0+1;d0+1", 15, 2);
        refused(x, "s0;d0+1", 1, 1);
        refused(x, "w31;w0;d0+1", 1, 2);
        refused(x, "w31;s0", 1, 1);
        refused(x, "w31;s2;s0", 20, 1);
    }

    private static void promise29OtherExceptions() {
        String[] texts = {
            "s1", "s999", "d1+1", "d0+0", "d0+49", "d0+999", "w49", "w999", "1i0@5-9", "1o31@5-9",
            "1o5@4-9", "1o5@9-8", "1o5@9-901"};
        for (String text : texts) {
            PilotRoster y = new PilotRoster();
            y.pass(5);
            y.order(1, true, 5, 5, 30);
            refused(y, text, 20, 0);
            refused(y, "w0;" + text, 20, 1);
        }
        PilotRoster x = new PilotRoster();
        x.pass(5);
        for (int k = 0; k < 16; k++) {
            x.order(1, true, 5, 5, 30);
        }
        refused(x, "w0;1o5@9-9", 20, 1);
        for (int k = 0; k < 20; k++) {
            x.pass(48);
        }
        refused(x, "w34;w1", 20, 1);
        refused(x, "w35", 20, 0);
        CHECK.same("to the last hour", 1, read(x, "w34"));
        CHECK.same("now", 999, x.number(4));
    }

    private static void promise30FaultPosition() {
        CHECK.fails("no fault", NoSuchElementException.class,
                () -> new PilotRoster().faultPosition());
        Object[][] faults = {
            {"", 0}, {"0i1@1-1", 0}, {"5", 0}, {";", 0}, {"i", 0}, {" w1", 0}, {"W1", 0},
            {"1", 1}, {"1s", 1}, {"11", 1}, {"1i", 2}, {"1ix", 2}, {"1o@", 2},
            {"1i5", 3}, {"1i5-", 3}, {"1i55@", 5}, {"1i5555", 5}, {"1i5@", 4}, {"1i5@x", 4},
            {"1i5@1", 5}, {"1i5@1@", 5}, {"1i5@1111", 7}, {"1i5@1-", 6}, {"1i5@1--", 6},
            {"1i5@1-1i", 7}, {"1i5@1-1111", 9}, {"1i5@1-1;", 8}, {"1i5@1-1;;", 8},
            {"s", 1}, {"sx", 1}, {"s1s", 2}, {"s1;", 3}, {"s1234", 4}, {"s1;s", 4}, {"s1+1", 2},
            {"d", 1}, {"d1", 2}, {"d1-1", 2}, {"d+", 1}, {"d1+", 3}, {"d1+x", 3}, {"d1+1+", 4},
            {"d1234", 4}, {"d1+1234", 6}, {"w", 1}, {"w;", 1}, {"w-1", 1}, {"w1,w1", 2},
            {"w1;5", 3}, {"w1\n", 2}, {"w\u0661", 1}, {"\0", 0}, {"w1\0", 2}, {"1\u0133", 1},
            {"w/", 1}, {"w:", 1}, {"w1;w1;w1;w1;w1;w1;w1;w1;w1;w1;w1;w1;w1;w1;w1;w1;w1;w1;w1;ww", 58},
        };
        for (Object[] row : faults) {
            PilotRoster x = new PilotRoster();
            fault(x, (String) row[0], (Integer) row[1]);
            CHECK.same("now", 0, x.number(4));
        }
    }

    private static void promise30FaultPositionIsKept() {
        PilotRoster x = new PilotRoster();
        x.saveSnapshot();
        x.pass(1);
        fault(x, "w1;", 3);
        read(x, "w1");
        CHECK.same("kept behind a text", 3, x.faultPosition());
        CHECK.fails("a refused text", UnsupportedOperationException.class, () -> read(x, "s1"));
        CHECK.same("kept behind a refused text", 3, x.faultPosition());
        x.undo();
        CHECK.same("kept behind undo", 3, x.faultPosition());
        x.restoreSnapshot();
        CHECK.same("kept behind restoreSnapshot", 3, x.faultPosition());
        fault(x, "x", 0);
    }

    private static void promise31Refusal() {
        PilotRoster x = new PilotRoster();
        CHECK.fails("no refusal", NoSuchElementException.class, () -> x.refusal(true));
        CHECK.fails("no refusal", NoSuchElementException.class, () -> x.refusal(false));
        x.saveSnapshot();
        x.order(1, true, 5, 0, 30);
        refused(x, "w0;w0;s0", 12, 2);
        fault(x, "x", 0);
        CHECK.fails("serving", NoSuchElementException.class, () -> x.serving(0, 0));
        CHECK.same("serveAll", 0, x.serveAll());
        CHECK.same("reason", 12, x.refusal(true));
        CHECK.same("item", 2, x.refusal(false));
        x.undo();
        x.undo();
        x.restoreSnapshot();
        CHECK.same("reason behind undo", 12, x.refusal(true));
        CHECK.same("item behind undo", 2, x.refusal(false));
        x.order(1, true, 5, 0, 30);
        CHECK.fails("release", UnsupportedOperationException.class, () -> x.release(0));
        CHECK.same("reason of a call", 13, x.refusal(true));
        CHECK.same("item of a call", 0, x.refusal(false));
    }
}
