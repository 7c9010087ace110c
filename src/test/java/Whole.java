import java.util.function.Supplier;

/**
 * All that can be asked of the roster that some calls lead to. Each part is asked of a new object
 * with the same calls, so that none is used for more calls than it is for.
 */
final class Whole {
    private final String setup;
    private final Supplier<Answering> maker;

    Whole(String setup) {
        this(setup, Calls::new);
    }

    Whole(String setup, Supplier<Answering> maker) {
        this.setup = setup;
        this.maker = maker;
    }

    private Answering made(String more) {
        Answering x = maker.get();
        Script.run(x, setup);
        Script.run(x, more);
        return x;
    }

    /** What is undone, saved and restored, behind each undo and in the snapshot, too. */
    String state() {
        StringBuilder all = new StringBuilder(stateBehind(""));
        int changes = (Integer) made("").call("number", 12);
        all.append(" changes ").append(changes);
        for (int k = 1; k <= changes; k++) {
            all.append(" undo ").append(stateBehind(k + "*undo"));
        }
        if (made("").call("restoreSnapshot") instanceof Integer) {
            all.append(" snapshot ").append(stateBehind("restoreSnapshot"));
        }
        return all.toString();
    }

    /** The same without what is behind an undo or in the snapshot. */
    String present() {
        return stateBehind("");
    }

    /** The length of the input, and what is found when it is read. */
    String input() {
        Answering x = made("");
        StringBuilder all = new StringBuilder();
        all.append(x.call("number", 13)).append(' ');
        Object answer = x.call("read");
        all.append(answer).append(' ');
        if (answer instanceof Integer) {
            return all.append(stateBehind("read")).toString();
        }
        if (answer == IllegalArgumentException.class) {
            return all.append(x.call("faultPosition")).toString();
        }
        return all.append(x.call("refusal", 1)).append(x.call("refusal", 0)).toString();
    }

    String fault() {
        return String.valueOf(made("").call("faultPosition"));
    }

    String refusal() {
        Answering x = made("");
        return x.call("refusal", 1) + " " + x.call("refusal", 0);
    }

    private String stateBehind(String more) {
        StringBuilder all = new StringBuilder();
        tellNumbers(made(more), all);
        tellOrders(made(more), all);
        tellServings(made(more), all);
        tellCrew(made(more), all);
        return all.toString();
    }

    private static void tell(StringBuilder all, Object answer) {
        all.append(answer instanceof Class ? "-" : answer).append(' ');
    }

    private static void tellNumbers(Answering x, StringBuilder all) {
        for (int what = 0; what <= 41; what++) {
            if (what < 12 || what > 13) {
                tell(all, x.call("number", what));
            }
        }
        for (int hour = 0; hour <= 12; hour++) {
            tell(all, x.call("depth", hour));
        }
        tell(all, x.call("meanWait"));
    }

    private static void tellOrders(Answering x, StringBuilder all) {
        for (int order = 0; order <= 16; order++) {
            for (int what = 0; what <= 10; what++) {
                tell(all, x.call("orderOf", order, what));
            }
            tell(all, x.call("window", order, 0));
            tell(all, x.call("urgent", order));
        }
    }

    private static void tellServings(Answering x, StringBuilder all) {
        for (int order = 0; order < 16; order++) {
            for (int what = 0; what <= 2; what++) {
                tell(all, x.call("serving", order, what));
            }
            for (int pilot = 0; pilot < 6; pilot++) {
                tell(all, x.call("hinders", order, pilot, 40));
            }
        }
    }

    private static void tellCrew(Answering x, StringBuilder all) {
        for (int pilot = 0; pilot <= 6; pilot++) {
            for (int what = 0; what <= 6; what++) {
                tell(all, x.call("pilot", pilot, what));
            }
            tell(all, x.call("share", pilot));
            boolean isPlace = true;
            for (int i = 0; isPlace; i++) {
                isPlace = x.call("planOf", pilot, i, 0) instanceof Integer;
                for (int what = 0; isPlace && what <= 4; what++) {
                    tell(all, x.call("planOf", pilot, i, what));
                }
            }
        }
        for (int boat = 0; boat <= 3; boat++) {
            for (int what = 0; what <= 4; what++) {
                tell(all, x.call("boat", boat, what));
            }
        }
    }
}
