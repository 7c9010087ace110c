/**
 * One setting for the two sides of a boundary. It is made anew for each case, so that no case
 * sees what another one did; a call that throws is also asked what it has left as it was.
 */
final class Edge {
    /** A fault position, a refusal, a part of an input and a snapshot that have to stay. */
    private static final String KEPT = "saveSnapshot, text w1;, !read, text w0;s99, !read, ";
    private static final String INPUT = "text w1;w0, ";

    private final Check check;
    private final String setup;
    private final Whole ahead;
    private String stateAhead;
    private String inputAhead;
    private String faultAhead;
    private String refusalAhead;

    private Edge(Check check, String setup) {
        this.check = check;
        this.setup = setup;
        this.ahead = new Whole(setup);
    }

    /** A setting with something of all that is kept. */
    static Edge of(Check check, String setup) {
        return new Edge(check, KEPT + INPUT + setup);
    }

    /** The same with this text as the input. */
    static Edge ofText(Check check, String setup, String text) {
        return new Edge(check, KEPT + setup + ", text " + text);
    }

    /** A setting that is made of these calls alone. */
    static Edge bare(Check check, String setup) {
        return new Edge(check, setup);
    }

    /** The setting with some more calls. */
    Edge after(String more) {
        return new Edge(check, setup + ", " + more);
    }

    private Object answer(String call) {
        Answering x = new Calls();
        Script.run(x, setup);
        return Script.answer(x, call);
    }

    private String name(String call) {
        return "[" + setup.replace(KEPT, "").replace(INPUT, "") + "] " + call;
    }

    /** The call returns this number. */
    Edge answers(String call, Number due) {
        Object got = answer(call);
        check.isTrue(name(call) + " answered " + got + ", due is " + due, due.equals(got));
        return this;
    }

    /** The call returns this number and leaves all as it was. */
    Edge asks(String call, Number due) {
        answers(call, due);
        lookAhead();
        Whole behind = new Whole(setup + ", " + call);
        stays(call, "state", stateAhead, behind.state());
        stays(call, "input", inputAhead, behind.input());
        stays(call, "fault position", faultAhead, behind.fault());
        stays(call, "refusal", refusalAhead, behind.refusal());
        return this;
    }

    /** These calls lead to something else. */
    Edge changes(String calls) {
        check.isTrue(name(calls) + " changes nothing",
                !ahead.present().equals(after(calls).ahead.present()));
        return this;
    }

    /** These calls lead back to the setting, but for what can be undone, and what is kept. */
    Edge leadsBack(String calls) {
        stays(calls, "present state", ahead.present(), after(calls).ahead.present());
        return this;
    }

    /** The call throws just this and leaves all as it was. */
    Edge fails(String call, Class<? extends RuntimeException> due) {
        Whole behind = thrown(call, due);
        stays(call, "input", inputAhead, behind.input());
        stays(call, "fault position", faultAhead, behind.fault());
        stays(call, "refusal", refusalAhead, behind.refusal());
        return this;
    }

    /** The call is refused and leaves all as it was but for the refusal. */
    Edge refuses(String call, int reason) {
        Whole behind = thrown(call, UnsupportedOperationException.class);
        stays(call, "input", inputAhead, behind.input());
        stays(call, "fault position", faultAhead, behind.fault());
        stays(call, "kept refusal", reason + " 0", behind.refusal());
        return this;
    }

    /** The input, which must be a part of the setting, is no text. */
    Edge faults(int position) {
        Whole behind = thrown("read", IllegalArgumentException.class);
        stays("read", "emptied input", new Whole("").input(), behind.input());
        stays("read", "kept fault position", String.valueOf(position), behind.fault());
        stays("read", "refusal", refusalAhead, behind.refusal());
        return this;
    }

    /** An item of the input is refused. */
    Edge refusesItem(int reason, int item) {
        Whole behind = thrown("read", UnsupportedOperationException.class);
        stays("read", "emptied input", new Whole("").input(), behind.input());
        stays("read", "fault position", faultAhead, behind.fault());
        stays("read", "kept refusal", reason + " " + item, behind.refusal());
        return this;
    }

    private Whole thrown(String call, Class<? extends RuntimeException> due) {
        Object got = answer(call);
        check.isTrue(name(call) + " answered " + got + ", due is " + due, due.equals(got));
        lookAhead();
        Whole behind = new Whole(setup + ", " + (got instanceof Class ? "!" : "") + call);
        stays(call, "state", stateAhead, behind.state());
        return behind;
    }

    private void lookAhead() {
        if (stateAhead == null) {
            stateAhead = ahead.state();
            inputAhead = ahead.input();
            faultAhead = ahead.fault();
            refusalAhead = ahead.refusal();
        }
    }

    private void stays(String call, String part, String due, String got) {
        check.isTrue(name(call) + ": the " + part + " is " + got + ", due is " + due,
                due.equals(got));
    }
}
