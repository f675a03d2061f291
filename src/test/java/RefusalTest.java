import java.util.function.IntFunction;
import java.util.function.ToLongFunction;

/**
 * "A call that throws changes nothing; of several exceptions that fit the one named first is thrown." Each number of
 * each call, just below and just above what it may be and as far off as can be, in an object that is new, in one that
 * is busy, and in one that is full, where an IllegalStateException would fit too.
 */
public final class RefusalTest {
    private static final int NONE = Streams.NONE;

    public static void main(String[] args) {
        Twins[] scenes = {
            new Twins("new", ChangeStream::new),
            new Twins("busy", RefusalTest::busy),
            new Twins("full", RefusalTest::full),
        };
        for (Twins twins : scenes) {
            storeRefuses(twins);
            keepAndToldRefuse(twins);
            readerRefuses(twins);
            readersSettingsRefuse(twins);
            readersStepsRefuse(twins);
        }
        fullRefuses(scenes[2]);
        busyIsNotFull();
        Due.end();
    }

    private static void storeRefuses(Twins twins) {
        int facts = twins.one().told(0);
        refused(twins, "fact(%d, 0)", 0, 7, n -> x -> x.fact(n, 0));
        refused(twins, "fact(0, %d)", 0, 15, n -> x -> x.fact(0, n));
        refused(twins, "change(%d, true)", 0, facts - 1, n -> x -> x.change(n, true));
        refused(twins, "change(%d, false)", 0, facts - 1, n -> x -> x.change(n, false));
        refused(twins, "contains(%d)", 0, facts - 1, n -> x -> x.contains(n) ? 1 : 0);
    }

    private static void keepAndToldRefuse(Twins twins) {
        int rows = twins.one().told(3);
        refused(twins, "keep(%d)", 1, 30, n -> x -> x.keep(n));
        refused(twins, "row(%d, 0)", 0, rows - 1, n -> x -> x.row(n, 0));
        refused(twins, "row(0, %d)", 0, 4, n -> x -> x.row(0, n));
        refused(twins, "row(last, %d)", 0, 4, n -> x -> x.row(rows - 1, n));
        refused(twins, "told(%d)", 0, 5, n -> x -> x.told(n));
    }

    private static void readerRefuses(Twins twins) {
        int transactions = twins.one().told(1);
        refused(twins, "reader(%d, NONE, NONE)", 1, transactions + 1, n -> x -> x.reader(n, NONE, NONE));
        refused(twins, "reader(1, %d, NONE)", NONE, 7, n -> x -> x.reader(1, n, NONE));
        refused(twins, "reader(1, NONE, %d)", NONE, 15, n -> x -> x.reader(1, NONE, n));
    }

    private static void readersSettingsRefuse(Twins twins) {
        int facts = twins.one().told(0);
        int readers = twins.one().told(4);
        refused(twins, "filter(%d, 1, 1)", 0, readers - 1, n -> x -> Calls.filter(x, n, 1, 1));
        refused(twins, "filter(0, %d, 1)", 0, 4, n -> x -> Calls.filter(x, 0, n, 1));
        refused(twins, "throttle(%d, 1)", 0, readers - 1, n -> x -> x.throttle(n, 1));
        refused(twins, "throttle(0, %d)", 1, 20, n -> x -> x.throttle(0, n));
        refused(twins, "right(%d, 0, false)", 0, readers - 1, n -> x -> Calls.right(x, n, 0, false));
        refused(twins, "right(0, %d, false)", 0, facts - 1, n -> x -> Calls.right(x, 0, n, false));
    }

    private static void readersStepsRefuse(Twins twins) {
        int transactions = twins.one().told(1);
        int readers = twins.one().told(4);
        refused(twins, "next(%d)", 0, readers - 1, n -> x -> x.next(n));
        refused(twins, "done(%d, 0)", 0, readers - 1, n -> x -> x.done(n, 0));
        refused(twins, "done(0, %d)", 0, transactions, n -> x -> x.done(0, n));
        refused(twins, "resume(%d)", 0, readers - 1, n -> x -> x.resume(n));
        refused(twins, "about(%d, 0)", 0, readers - 1, n -> x -> x.about(n, 0));
        refused(twins, "about(0, %d)", 0, 4, n -> x -> x.about(0, n));
    }

    private static void fullRefuses(Twins twins) {
        twins.badState("fact(0, 0)", x -> x.fact(0, 0));
        twins.badState("fact(7, 15)", x -> x.fact(7, 15));
        twins.badState("change(0, true)", x -> x.change(0, true));
        twins.badState("change(99, false)", x -> x.change(99, false));
        twins.badState("reader(1, NONE, NONE)", x -> x.reader(1, NONE, NONE));
        twins.badState("reader(2, 7, 15)", x -> x.reader(2, 7, 15));
        twins.badState("right(0, 0, true)", x -> Calls.right(x, 0, 0, true));
        twins.badState("right(0, 99, false)", x -> Calls.right(x, 0, 99, false));
    }

    /** The same calls, where there is room for them. */
    private static void busyIsNotFull() {
        ChangeStream x = busy();
        Due.answer("fact(0, 0), busy", x.fact(0, 0), 6);
        Due.answer("change(0, true), busy", x.change(0, true), 3);
        Due.answer("reader(1, NONE, NONE), busy", x.reader(1, NONE, NONE), 2);
        Due.answer("right(0, 0, true), busy", Calls.right(x, 0, 0, true), 0);
    }

    private static void refused(Twins twins, String call, int least, int most,
            IntFunction<ToLongFunction<ChangeStream>> made) {
        for (int wrong : new int[] {Integer.MIN_VALUE, least - 1, most + 1, Integer.MAX_VALUE}) {
            twins.badArgument(String.format(call, wrong), made.apply(wrong));
        }
    }

    /** Reader 0 has rows that are done, rows that are not and one to wait for; reader 1 is too late. */
    private static ChangeStream busy() {
        ChangeStream x = Streams.withFacts(6);
        x.reader(1, NONE, NONE);
        x.throttle(0, 3);
        x.filter(0, 3, 5);
        x.right(0, 1, false);
        x.reader(1, 2, NONE);
        x.filter(1, 4, 0);
        x.keep(4);
        Streams.bringIn(x, 6);
        Streams.takes(x, 0, 0, 1);
        x.done(0, 1);
        Streams.takes(x, 0, 2, 5);
        Streams.takes(x, 1, 2, 3);
        Streams.flip(x, 2, 2);
        Due.answer("a row to wait for", x.next(0), Streams.WAIT);
        x.right(0, 0, false);
        Streams.flip(x, 0, 2);
        x.change(1, false);
        x.change(5, false);
        return x;
    }

    /** No room for a fact, a change, a reader, or a right of reader 0. */
    private static ChangeStream full() {
        ChangeStream x = Streams.withFacts(100);
        x.keep(5);
        for (int reader = 0; reader < 6; reader++) {
            x.reader(1, reader, NONE);
        }
        for (int i = 0; i < 40; i++) {
            x.right(0, i, i % 2 == 1);
        }
        Streams.bringIn(x, 2);
        for (int i = 0; i < 20; i++) {
            x.change(80 + i, true);
        }
        return x;
    }
}
