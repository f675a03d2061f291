import java.util.function.LongSupplier;

/** Mixed runs of 512 calls, the same each time, on the class and on the plain model: every answer must agree. */
public final class ModelTest {
    private static final int RUNS = 3000;
    private static final int CALLS = 512;
    private static final int LONG_RUNS = 4;
    private static final int MANY_CALLS = 6000;
    // How often each call is made, of 100, by its number in both(): a mixture that keeps readers busy.
    private static final int[][] MIXTURES = {
        {4, 24, 12, 2, 2, 3, 2, 4, 3, 3, 22, 6, 3, 4, 4, 2},
        {3, 12, 20, 1, 1, 6, 2, 4, 4, 5, 24, 4, 5, 3, 4, 2},
        {6, 30, 5, 1, 2, 1, 2, 4, 2, 6, 28, 5, 4, 1, 2, 1},
        {20, 20, 4, 2, 2, 1, 1, 2, 2, 20, 14, 3, 3, 2, 2, 2},
    };
    private static final int[] FAR = {Integer.MIN_VALUE, Integer.MIN_VALUE + 1, -7, 101, 1000, Integer.MAX_VALUE};

    private static long state = 1;

    public static void main(String[] args) {
        for (int run = 0; run < RUNS; run++) {
            mixedRun(run, CALLS);
        }
        for (int run = 0; run < LONG_RUNS; run++) {
            mixedRun(run, MANY_CALLS);
        }
        Due.end();
    }

    private static void mixedRun(int run, int calls) {
        state = run;
        ChangeStream x = new ChangeStream();
        Model model = new Model();
        int[] mixture = MIXTURES[run % MIXTURES.length];
        int facts = 3 + below(30);
        for (int i = 0; i < facts; i++) {
            both(run, i, x, model, 0);
        }
        for (int i = facts; i < calls; i++) {
            both(run, i, x, model, pick(mixture));
        }
    }

    private static void both(int run, int i, ChangeStream x, Model m, int kind) {
        int reader = near(0, m.told(4) - 1);
        int fact = near(0, m.told(0) - 1);
        int transactions = m.told(1);
        boolean on = below(5) < 3;
        int what = near(0, 4);
        switch (kind) {
            case 0 -> { int g = near(0, 7), p = near(0, 15); same(run, i, "fact", () -> x.fact(g, p), () -> m.fact(g, p)); }
            case 1 -> same(run, i, "change", () -> x.change(fact, on), () -> m.change(fact, on));
            case 2 -> same(run, i, "commit", x::commit, m::commit);
            case 3 -> same(run, i, "abort", x::abort, m::abort);
            case 4 -> same(run, i, "contains", () -> x.contains(fact) ? 1 : 0, () -> m.contains(fact));
            case 5 -> { int n = near(1, below(4) == 0 ? 30 : 4); same(run, i, "keep", () -> x.keep(n), () -> m.keep(n)); }
            case 6 -> {
                int from = near(1, transactions + 1), g = asked(7), p = asked(15);
                same(run, i, "reader", () -> x.reader(from, g, p), () -> m.reader(from, g, p));
            }
            case 7 -> {
                int sort = near(0, 4), number = near(-3, 12);
                same(run, i, "filter", () -> Calls.filter(x, reader, sort, number), () -> m.filter(reader, sort, number));
            }
            case 8 -> { int n = near(1, 20); same(run, i, "throttle", () -> x.throttle(reader, n), () -> m.throttle(reader, n)); }
            case 9 -> same(run, i, "right", () -> Calls.right(x, reader, fact, on), () -> m.right(reader, fact, on));
            case 10 -> same(run, i, "next", () -> x.next(reader), () -> m.next(reader));
            case 11 -> {
                int number = near(Math.max(0, transactions - 5), transactions);
                same(run, i, "done", () -> x.done(reader, number), () -> m.done(reader, number));
            }
            case 12 -> same(run, i, "resume", () -> x.resume(reader), () -> m.resume(reader));
            case 13 -> { int n = near(0, m.told(3) - 1); same(run, i, "row", () -> x.row(n, what), () -> m.row(n, what)); }
            case 14 -> same(run, i, "about", () -> x.about(reader, what), () -> m.about(reader, what));
            default -> { int n = near(0, 5); same(run, i, "told", () -> x.told(n), () -> m.told(n)); }
        }
    }

    private static void same(int run, int i, String call, LongSupplier got, LongSupplier due) {
        String title = "run " + run + ", call " + i + ", " + call;
        String answer = Due.outcome(got);
        String wanted = Due.outcome(due);
        if (i < CALLS) {
            Due.text(title, answer, wanted);
        } else {
            Due.answer(title + " answered " + answer + ", a thing that a call may answer", mayBe(answer), true);
        }
    }

    /** Behind its last promised call an object may answer what it likes, but still throws nothing by itself. */
    private static boolean mayBe(String answer) {
        return !answer.startsWith("throws.") || answer.equals("throws.IllegalArgumentException")
            || answer.equals("throws.IllegalStateException");
    }

    /** Mostly a number of least .. most, now and then one beside them or far away. */
    private static int near(int least, int most) {
        int turn = below(60);
        if (turn == 0) {
            return FAR[below(FAR.length)];
        }
        if (turn == 1) {
            return least - 1;
        }
        if (turn == 2 || most < least) {
            return most + 1;
        }
        return least + below(most - least + 1);
    }

    private static int asked(int most) {
        return below(3) > 0 ? ChangeStream.NONE : near(0, most);
    }

    private static int pick(int[] mixture) {
        int left = below(100);
        for (int kind = 0; kind < mixture.length; kind++) {
            left -= mixture[kind];
            if (left < 0) {
                return kind;
            }
        }
        return mixture.length - 1;
    }

    private static int below(int bound) {
        state = state * 6364136223846793005L + 1442695040888963407L;
        return (int) ((state >>> 33) % bound);
    }
}
