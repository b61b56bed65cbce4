/** Counts the checks of a test and tells at its end whether all held. */
final class Check {
    interface Call {
        Object run();
    }

    private final String test;
    private String part = "";
    private int passed;
    private int failed;

    Check(String test) {
        this.test = test;
    }

    /** The checks that follow belong to this part of the test. */
    void begin(String name) {
        part = name + ": ";
    }

    void same(String what, Object want, Object got) {
        if (want.equals(got)) {
            passed++;
        } else {
            failed++;
            if (failed <= 50) {
                System.out.println(test + ": " + part + what + " answered " + got
                        + ", due is " + want);
            }
        }
    }

    /** The answer of a call as a text, or the exact class of what it throws. */
    static String outcome(Call call) {
        try {
            return String.valueOf(call.run());
        } catch (RuntimeException e) {
            return "throws." + e.getClass().getSimpleName();
        }
    }

    void due(String what, Object want, Call call) {
        same(what, String.valueOf(want), outcome(call));
    }

    /** The call throws the exception, and the state is the one from before. */
    void refused(LyingScale x, String what, String exception, Call call) {
        long before = x.digest();
        due(what, "throws." + exception, call);
        same(what + ": digest after the throw", before, x.digest());
    }

    int count() {
        return passed + failed;
    }

    void close() {
        System.out.println(test);
        System.out.println(passed + " passed, " + failed + " failed");
        if (failed != 0) {
            System.exit(1);
        }
    }
}
