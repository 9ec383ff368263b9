import java.util.function.LongSupplier;

/** Counts what is not as due, and ends the test with exit code 1 if there was something. */
final class Check {
    static final String IAE = "IllegalArgumentException";
    static final String ISE = "IllegalStateException";
    static final String IOB = "IndexOutOfBoundsException";

    private static int wrong;
    private static int looked;

    private Check() {
    }

    static void same(String call, long got, long want) {
        looked++;
        if (got != want) {
            wrong++;
            System.out.println(call + " answered " + got + ", due is " + want);
        }
    }

    static void same(String call, String got, String want) {
        looked++;
        if (!got.equals(want)) {
            wrong++;
            System.out.println(call + " answered " + got + ", due is " + want);
        }
    }

    /** Each of the rest is due as the answer of one call more. */
    static void row(String call, long[] got, long... want) {
        same(call + " (how many)", got.length, want.length);
        for (int i = 0; i < Math.min(got.length, want.length); i++) {
            same(call + " [" + i + "]", got[i], want[i]);
        }
    }

    static void fails(String call, String exception, Runnable what) {
        same(call, outcome(() -> {
            what.run();
            return 0;
        }), exception);
    }

    /** The answer, or the simple name of what was thrown. */
    static String outcome(LongSupplier what) {
        try {
            return Long.toString(what.getAsLong());
        } catch (RuntimeException e) {
            return e.getClass().getSimpleName();
        }
    }

    static void end(String name) {
        System.out.println(name + ": " + looked + " looked at, " + wrong + " wrong");
        if (wrong > 0) {
            System.exit(1);
        }
    }
}
