/** Promises 24 to 27: time and accounts. */
public final class TimeTest {
    private static final Check CHECK = new Check("TimeTest");

    public static void main(String[] args) {
        promise24PassWrong();
        promise24PassMakesDone();
        promise24PassMisses();
        promise24LicenceGrows();
        promise24LicenceOfLowerRule();
        promise24LicenceOfThen();
        promise24LicenceOfEachPilot();
        promise24LicenceFour();
        promise25Number();
        promise25NumberWrong();
        promise26MeanWait();
        promise27Share();
        CHECK.end();
    }

    private static void promise24PassWrong() {
        PilotRoster x = new PilotRoster();
        CHECK.fails("pass(-1)", IllegalArgumentException.class, () -> x.pass(-1));
        CHECK.fails("pass(49)", IllegalArgumentException.class, () -> x.pass(49));
        CHECK.same("pass(0)", 0, x.pass(0));
        CHECK.same("a change all the same", 1, x.number(12));
        for (int k = 0; k < 20; k++) {
            CHECK.same("pass(48)", 0, x.pass(48));
        }
        CHECK.same("now", 960, x.number(4));
        CHECK.fails("pass(40)", IllegalStateException.class, () -> x.pass(40));
        CHECK.fails("pass(49) so late", IllegalArgumentException.class, () -> x.pass(49));
        CHECK.same("pass(39)", 0, x.pass(39));
        CHECK.fails("pass(1)", IllegalStateException.class, () -> x.pass(1));
        CHECK.same("pass(0)", 0, x.pass(0));
        CHECK.same("the last hour", 999, x.number(4));
    }

    private static void promise24PassMakesDone() {
        PilotRoster x = new PilotRoster();
        x.addPilot(1);
        x.order(1, true, 5, 2, 9);
        x.plan(0, 0, 2);
        CHECK.same("pass(4)", 0, x.pass(4));
        CHECK.same("under way", 1, x.orderOf(0, 5));
        CHECK.same("pass(1)", 0, x.pass(1));
        CHECK.same("done", 2, x.orderOf(0, 5));
        CHECK.same("trips", 1, x.pilot(0, 1));
        CHECK.same("trips done", 1, x.pilot(0, 2));
        x.pass(20);
        CHECK.same("counted once", 1, x.pilot(0, 1));
        CHECK.same("done is not missed", 2, x.orderOf(0, 5));
    }

    private static void promise24PassMisses() {
        PilotRoster x = new PilotRoster();
        x.addPilot(1);
        x.order(1, true, 5, 2, 9);
        x.order(1, true, 5, 2, 10);
        x.order(1, true, 5, 2, 10);
        x.order(1, true, 5, 9, 9);
        x.plan(3, 0, 9);
        CHECK.same("the latest hour is now", 0, x.pass(9));
        CHECK.same("one missed", 1, x.pass(1));
        CHECK.same("missed", 3, x.orderOf(0, 5));
        CHECK.same("open", 0, x.orderOf(1, 5));
        CHECK.same("planned", 1, x.orderOf(3, 5));
        CHECK.same("two more missed", 2, x.pass(40));
        CHECK.same("none left", 0, x.pass(48));
        CHECK.same("missed in all", 3, x.number(3));
    }

    /** Pilot 0 with a licence makes trips of the sizes, one a day from hour 6 on. */
    private static PilotRoster trips(int tripsForLicence, int licence, int... sizes) {
        PilotRoster x = new PilotRoster();
        x.rule(2, tripsForLicence);
        x.addPilot(licence);
        for (int k = 0; k < sizes.length; k++) {
            int hour = 6 + 24 * k;
            x.order(sizes[k], k % 2 == 0, 1, hour, hour);
            x.plan(k, 0, hour);
        }
        return x;
    }

    private static void passDays(PilotRoster x, int days, int licence, int trips) {
        x.pass(24);
        CHECK.same("licence on day " + days, licence, x.pilot(0, 0));
        CHECK.same("trips on day " + days, trips, x.pilot(0, 1));
        CHECK.same("trips done on day " + days, days, x.pilot(0, 2));
    }

    private static void promise24LicenceGrows() {
        PilotRoster x = trips(2, 2, 2, 1, 2, 2, 2);
        passDays(x, 1, 2, 1);
        passDays(x, 2, 2, 1);
        passDays(x, 3, 3, 0);
        passDays(x, 4, 3, 0);
        passDays(x, 5, 3, 0);
    }

    private static void promise24LicenceOfLowerRule() {
        PilotRoster x = trips(9, 1, 1, 1, 1, 1);
        passDays(x, 1, 1, 1);
        passDays(x, 2, 1, 2);
        x.rule(2, 1);
        CHECK.same("the rule alone gives no licence", 1, x.pilot(0, 0));
        x.pass(0);
        CHECK.same("nor does time without a trip", 1, x.pilot(0, 0));
        passDays(x, 3, 2, 0);
        passDays(x, 4, 2, 0);
    }

    private static void promise24LicenceOfThen() {
        PilotRoster x = new PilotRoster();
        x.rule(2, 1);
        x.addPilot(1);
        x.order(1, false, 1, 20, 20);
        x.order(1, true, 1, 10, 10);
        x.plan(1, 0, 10);
        x.plan(0, 0, 20);
        x.pass(30);
        CHECK.same("the second trip is below the licence then", 2, x.pilot(0, 0));
        CHECK.same("trips in it", 0, x.pilot(0, 1));
        CHECK.same("done", 2, x.number(2));
    }

    private static void promise24LicenceOfEachPilot() {
        PilotRoster x = new PilotRoster();
        x.rule(2, 2);
        x.addPilot(1);
        x.addPilot(1);
        x.order(1, true, 1, 7, 7);
        x.order(1, true, 1, 7, 7);
        x.plan(0, 1, 7);
        x.plan(1, 0, 7);
        x.pass(10);
        CHECK.same("trips of pilot 0", 1, x.pilot(0, 1));
        CHECK.same("trips of pilot 1", 1, x.pilot(1, 1));
    }

    private static void promise24LicenceFour() {
        PilotRoster x = trips(1, 3, 3);
        passDays(x, 1, 4, 0);
        x.order(4, false, 1, 30, 30);
        x.plan(1, 0, 30);
        passDays(x, 2, 4, 1);
        PilotRoster y = trips(1, 4, 4, 4, 3);
        passDays(y, 1, 4, 1);
        passDays(y, 2, 4, 2);
        passDays(y, 3, 4, 2);
    }

    private static void promise25Number() {
        PilotRoster x = new PilotRoster();
        x.addPilot(4);
        x.addPilot(4);
        x.addPilot(4);
        x.addBoat(2);
        x.addBoat(2);
        x.order(1, true, 5, 0, 90);
        x.order(4, true, 5, 0, 90);
        x.order(2, true, 5, 0, 90);
        x.order(2, true, 5, 0, 4);
        x.order(2, true, 17, 0, 90);
        x.plan(0, 0, 0);
        x.plan(1, 1, 4);
        x.putOff(4, 1);
        x.putOff(4, 1);
        x.putOff(2, 1);
        x.run(0, 3, 4);
        x.run(1, 3, 0);
        x.run(0, 5, 4);
        x.pass(6);
        x.feed('w');
        x.feed('1');
        int[] due = {2, 1, 1, 1, 6, 3, 2, 3, 2, 9, 3, 2, 8, 2};
        for (int what = 0; what < due.length; what++) {
            CHECK.same("number(" + what + ")", due[what], x.number(what));
        }
        x.rule(4, 11);
        x.tide(5, 8);
        CHECK.same("number(24)", 11, x.number(24));
        CHECK.same("number(35)", 8, x.number(35));
        x.pass(1);
        CHECK.same("one under way", 1, x.number(11));
        x.pass(3);
        CHECK.same("none under way", 0, x.number(11));
        CHECK.same("hours of what is done, too", 9, x.number(9));
    }

    private static void promise25NumberWrong() {
        PilotRoster x = new PilotRoster();
        int[] wrong = {-1, 14, 19, 25, 29, 42, Integer.MIN_VALUE, Integer.MAX_VALUE};
        for (int what : wrong) {
            CHECK.fails("number(" + what + ")", IllegalArgumentException.class,
                    () -> x.number(what));
        }
    }

    private static void promise26MeanWait() {
        PilotRoster x = new PilotRoster();
        CHECK.fails("no orders", ArithmeticException.class, () -> x.meanWait());
        x.addPilot(4);
        x.addPilot(4);
        x.addPilot(4);
        x.order(1, true, 5, 1, 90);
        x.order(1, true, 5, 3, 90);
        x.order(1, true, 5, 0, 90);
        CHECK.fails("open orders alone", ArithmeticException.class, () -> x.meanWait());
        x.plan(0, 0, 3);
        CHECK.same("one", 2.0, x.meanWait());
        x.plan(1, 1, 6);
        CHECK.same("two", 2.5, x.meanWait());
        x.plan(2, 2, 5);
        CHECK.same("three", 10.0 / 3.0, x.meanWait());
        x.pass(8);
        CHECK.same("done, too", 10.0 / 3.0, x.meanWait());
        x.order(1, true, 5, 8, 8);
        x.pass(1);
        CHECK.same("missed ones do not count", 10.0 / 3.0, x.meanWait());
        x.order(1, false, 5, 60, 90);
        x.plan(4, 0, 60);
        CHECK.same("one without a wait", 2.5, x.meanWait());
        x.release(4);
        CHECK.same("released ones do not count", 10.0 / 3.0, x.meanWait());
    }

    private static void promise27Share() {
        PilotRoster x = new PilotRoster();
        CHECK.fails("no pilot at hour 0", IndexOutOfBoundsException.class, () -> x.share(0));
        x.addPilot(1);
        x.addPilot(1);
        x.addBoat(1);
        CHECK.fails("hour 0", ArithmeticException.class, () -> x.share(0));
        x.order(1, true, 5, 0, 90);
        x.order(1, false, 5, 0, 90);
        x.plan(0, 0, 2);
        x.run(0, 1, 2);
        x.plan(1, 0, 20);
        x.pass(2);
        CHECK.same("ahead of the trip", 0, x.share(0));
        x.pass(1);
        CHECK.same("an hour of three", 1.0f / 3.0f, x.share(0));
        CHECK.same("a ride is no trip", 0, x.share(1));
        x.pass(2);
        CHECK.same("three of five", 3.0f / 5.0f, x.share(0));
        x.pass(2);
        CHECK.same("three of seven", 3.0f / 7.0f, x.share(0));
        x.pass(14);
        CHECK.same("four of 21", 4.0f / 21.0f, x.share(0));
        x.pass(19);
        CHECK.same("six of 40", 6.0f / 40.0f, x.share(0));
        CHECK.fails("no pilot", IndexOutOfBoundsException.class, () -> x.share(2));
        CHECK.fails("no pilot", IndexOutOfBoundsException.class, () -> x.share(-1));
    }
}
