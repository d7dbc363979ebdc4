/** Counts what is as due and prints what is not. */
final class Check {
    /** A call of the class under test. */
    interface Call {
        long answer();
    }

    private final String name;
    private int passed = 0;
    private int failed = 0;

    Check(String name) {
        this.name = name;
    }

    /** The answer as the issues tell it: a number, or the exception's name behind throws. */
    static String told(Call call) {
        try {
            return Long.toString(call.answer());
        } catch (RuntimeException e) {
            return "throws." + e.getClass().getSimpleName();
        }
    }

    void same(String what, String got, String due) {
        if (got.equals(due)) {
            passed++;
        } else {
            failed++;
            System.out.println(name + ": " + what + " answered " + got + ", due is " + due);
        }
    }

    void answers(String what, long due, Call call) {
        same(what, told(call), Long.toString(due));
    }

    void argument(String what, Call call) {
        same(what, told(call), "throws.IllegalArgumentException");
    }

    void state(String what, Call call) {
        same(what, told(call), "throws.IllegalStateException");
    }

    void index(String what, Call call) {
        same(what, told(call), "throws.IndexOutOfBoundsException");
    }

    boolean hasFailed() {
        return failed > 0;
    }

    /** Prints the counts and ends the program with exit code 1 if something was not as due. */
    void close() {
        System.out.println(name + ": " + passed + " passed, " + failed + " failed");
        if (failed > 0 || passed == 0) {
            System.exit(1);
        }
    }
}
