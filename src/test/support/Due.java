import java.util.function.LongSupplier;

/** Compares answers with those that are due, prints the wrong ones, and ends the test with exit code 1 for them. */
final class Due {
    private static int compared = 0;
    private static int wrong = 0;

    private Due() { }

    static void answer(String call, long got, long want) {
        compared++;
        if (got != want) {
            tell(call + " answered " + got + ", due is " + want);
        }
    }

    static void answer(String call, boolean got, boolean want) {
        answer(call, got ? 1 : 0, want ? 1 : 0);
    }

    static void text(String call, String got, String want) {
        compared++;
        if (!got.equals(want)) {
            tell(call + " answered " + got + ", due is " + want);
        }
    }

    static void badArgument(String call, LongSupplier made) {
        text(call, outcome(made), "throws.IllegalArgumentException");
    }

    static void badState(String call, LongSupplier made) {
        text(call, outcome(made), "throws.IllegalStateException");
    }

    /** What a call answers, or the name of what it throws, as one text. */
    static String outcome(LongSupplier made) {
        try {
            return Long.toString(made.getAsLong());
        } catch (RuntimeException thrown) {
            return "throws." + thrown.getClass().getSimpleName();
        }
    }

    static void end() {
        System.out.println(compared + " answers compared, " + wrong + " wrong");
        if (wrong != 0 || compared == 0) {
            System.exit(1);
        }
    }

    private static void tell(String fault) {
        wrong++;
        if (wrong <= 20) {
            System.out.println(fault);
        }
    }
}
