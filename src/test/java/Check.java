/** Counts the answers of a test and tells those that are not due. */
final class Check {
    private final String name;
    private int right;
    private int wrong;

    Check(String name) {
        this.name = name;
    }

    void same(String call, double due, double got) {
        if (due == got) {
            right++;
        } else {
            tell(call + " answered " + got + ", due is " + due);
        }
    }

    void isTrue(String what, boolean holds) {
        if (holds) {
            right++;
        } else {
            tell(what);
        }
    }

    /** The exception must be just of this class, and of none below it. */
    void fails(String call, Class<? extends RuntimeException> due, Runnable body) {
        try {
            body.run();
        } catch (RuntimeException thrown) {
            if (thrown.getClass() == due) {
                right++;
            } else {
                tell(call + " threw " + thrown.getClass().getName() + ", due is " + due.getName());
            }
            return;
        }
        tell(call + " threw nothing, due is " + due.getName());
    }

    void tell(String what) {
        wrong++;
        System.out.println(name + ": " + what);
    }

    void end() {
        System.out.println(name + ": " + right + " right, " + wrong + " wrong");
        if (wrong != 0) {
            System.exit(1);
        }
    }
}
