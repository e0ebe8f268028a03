/** Counts the answers that are not as due, prints them, and ends the test. */
final class Check {
    interface Call {
        int answer();
    }

    interface Act {
        void run();
    }

    private final String test;
    private int wrong;

    Check(String test) {
        this.test = test;
    }

    void equal(String what, int due, int got) {
        if (due != got) {
            report(what + " answered " + got + ", due is " + due);
        }
    }

    void noSuch(String what, Call call) {
        throwing(what, IndexOutOfBoundsException.class, call);
    }

    void outOfRange(String what, Call call) {
        throwing(what, IllegalArgumentException.class, call);
    }

    void refused(String what, Call call) {
        throwing(what, IllegalStateException.class, call);
    }

    /** Exactly this class is due, by a throw of the host's own: not what the machine or a list throws. */
    void throwing(String what, Class<? extends RuntimeException> due, Call call) {
        try {
            report(what + " answered " + call.answer() + ", due is " + due.getSimpleName());
        } catch (RuntimeException thrown) {
            if (thrown.getClass() != due || !thrownByHost(thrown)) {
                report(what + " threw " + thrown + ", due is " + due.getSimpleName());
            }
        }
    }

    static boolean thrownByHost(RuntimeException thrown) {
        StackTraceElement[] trace = thrown.getStackTrace();
        return trace.length > 0 && trace[0].getClassName().startsWith("ContainerHost");
    }

    void finish() {
        if (wrong > 0) {
            System.out.println(test + ": " + wrong + " answers are not as due");
            System.exit(1);
        }
    }

    /** For calls that answer nothing. */
    static Call of(Act act) {
        return () -> {
            act.run();
            return 0;
        };
    }

    void report(String text) {
        wrong++;
        System.out.println(test + ": " + text);
    }
}
