/** Counts the answers that are due and those that are not, and tells the latter. */
final class Check {
    interface Call {
        void run();
    }

    private final String name;
    private String about = "";
    private int passed = 0;
    private int failed = 0;

    Check(String name) {
        this.name = name;
    }

    /** Names what the next answers are about; an empty text takes that back. */
    void about(String text) {
        about = text.isEmpty() ? "" : text + ": ";
    }

    int answers() {
        return passed + failed;
    }

    void same(String what, long got, long want) {
        same(what, Long.toString(got), Long.toString(want));
    }

    void yes(String what, boolean got) {
        same(what, Boolean.toString(got), "true");
    }

    void no(String what, boolean got) {
        same(what, Boolean.toString(got), "false");
    }

    void throwsIndex(String what, Call call) {
        throwsExactly(what, call, IndexOutOfBoundsException.class);
    }

    void throwsArgument(String what, Call call) {
        throwsExactly(what, call, IllegalArgumentException.class);
    }

    void throwsState(String what, Call call) {
        throwsExactly(what, call, IllegalStateException.class);
    }

    void same(String what, String got, String want) {
        if (got.equals(want)) {
            passed++;
        } else {
            failed++;
            System.out.println(name + ": " + about + what + " answered " + got + ", due is " + want);
        }
    }

    /** Ends the program, with exit code 1 if an answer was not as due. */
    void end() {
        System.out.println(name + ": " + passed + " answers as due, " + failed + " not");
        if (failed > 0 || passed == 0) {
            System.exit(1);
        }
    }

    private void throwsExactly(String what, Call call, Class<?> want) {
        String got = "nothing thrown";
        try {
            call.run();
        } catch (RuntimeException e) {
            got = thrown(e).substring("throws.".length());
        }
        same(what, got, want.getSimpleName());
    }

    /** Names an exception; one that the gate has not thrown with a throw of its own is not as documented. */
    static String thrown(RuntimeException e) {
        StackTraceElement[] trace = e.getStackTrace();
        boolean own = trace.length > 0 && trace[0].getClassName().startsWith("AccessGate");
        return "throws." + e.getClass().getSimpleName() + (own ? "" : " by the machine or the library");
    }
}
