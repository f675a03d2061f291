/** Each promise of the document: ordinary inputs, the edges it names, and wrong inputs. */
public final class PromiseTest {
    private static final int NONE = ChangeStream.NONE;
    private static final int WAIT = ChangeStream.WAIT;
    private static final int GAP = ChangeStream.GAP;
    private static final int[] FAR = {Integer.MIN_VALUE, -2, Integer.MAX_VALUE};

    public static void main(String[] args) {
        newObject();
        fact();
        change();
        commit();
        rowsOfOneCommit();
        abort();
        contains();
        keep();
        goneStaysGone();
        manyRowsAreKept();
        reader();
        readerAsks();
        filter();
        failingFilter();
        throttle();
        right();
        rightsChangedFortyTimes();
        next();
        nextGap();
        nextWait();
        done();
        resume();
        resumeTooLate();
        row();
        about();
        told();
        refusedCallsChangeNothing();
        Due.end();
    }

    private static void newObject() {
        ChangeStream x = new ChangeStream();
        int[] due = {0, 0, 1, 0, 0, 0};
        for (int what = 0; what < due.length; what++) {
            Due.answer("1: told(" + what + ")", x.told(what), due[what]);
        }
        Due.badArgument("1: contains(0)", () -> x.contains(0) ? 1 : 0);
        Due.badArgument("1: next(0)", () -> x.next(0));
        Due.badArgument("1: row(0, 0)", () -> x.row(0, 0));
        Due.answer("1: keep(10)", x.keep(10), 10);
        ChangeStream other = withFacts(2);
        other.commit();
        Due.answer("1: objects share nothing", x.told(0) + x.told(1), 0);
    }

    private static void fact() {
        ChangeStream x = new ChangeStream();
        Due.answer("2: fact(0, 0)", x.fact(0, 0), 0);
        Due.answer("2: fact(7, 15)", x.fact(7, 15), 1);
        Due.answer("2: the same once more is a new one", x.fact(7, 15), 2);
        Due.badArgument("2: fact(8, 0)", () -> x.fact(8, 0));
        Due.badArgument("2: fact(-1, 0)", () -> x.fact(-1, 0));
        Due.badArgument("2: fact(0, 16)", () -> x.fact(0, 16));
        Due.badArgument("2: fact(0, -1)", () -> x.fact(0, -1));
        for (int far : FAR) {
            Due.badArgument("2: fact(far, 0)", () -> x.fact(far, 0));
            Due.badArgument("2: fact(0, far)", () -> x.fact(0, far));
        }
        for (int i = 3; i < 100; i++) {
            Due.answer("2: fact " + i, x.fact(i % 8, i % 16), i);
        }
        Due.badState("2: a fact beyond 100", () -> x.fact(0, 0));
        Due.badArgument("2: the argument is looked at first", () -> x.fact(8, 0));
        Due.badArgument("2: the argument is looked at first", () -> x.fact(0, 16));
        Due.answer("2: told(0)", x.told(0), 100);
    }

    private static void change() {
        ChangeStream x = withFacts(2);
        Due.badArgument("3: change(2, true)", () -> x.change(2, true));
        Due.badArgument("3: change(-1, true)", () -> x.change(-1, true));
        for (int far : FAR) {
            Due.badArgument("3: change(far, true)", () -> x.change(far, true));
        }
        for (int i = 1; i <= 20; i++) {
            Due.answer("3: change " + i, x.change(i % 2, i % 3 == 0), i);
        }
        Due.badState("3: change 21", () -> x.change(0, true));
        Due.badArgument("3: the argument is looked at first", () -> x.change(2, true));
        x.commit();
        Due.answer("3: change in a new transaction", x.change(0, true), 1);
    }

    private static void commit() {
        ChangeStream x = withFacts(1);
        Due.answer("4: commit without changes", x.commit(), 1);
        Due.answer("4: it has no rows", x.told(3), 0);
        x.change(0, true);
        Due.answer("4: commit", x.commit(), 2);
        Due.answer("4: rows", x.told(3), 1);
        Due.answer("4: the next one is open without changes", x.told(5), 0);
        Due.answer("4: its changes are not made again", x.commit(), 3);
        Due.answer("4: rows", x.told(3), 1);
        x.change(0, true);
        x.commit();
        Due.answer("4: what is in does not come in", x.told(3), 1);
        x.change(0, false);
        x.change(0, true);
        x.commit();
        Due.answer("4: what goes and comes back is not changed", x.told(3), 1);
        x.change(0, true);
        x.change(0, false);
        x.commit();
        Due.answer("4: the last change counts", x.told(3), 2);
        Due.answer("4: the row's transaction", x.row(1, 0), 6);
    }

    private static void rowsOfOneCommit() {
        ChangeStream x = withFacts(6);
        for (int fact : new int[] {5, 1, 3}) {
            x.change(fact, true);
        }
        x.commit();
        for (int fact : new int[] {4, 0, 2}) {
            x.change(fact, true);
        }
        for (int fact : new int[] {5, 1, 3}) {
            x.change(fact, false);
        }
        x.commit();
        int[] facts = {1, 3, 5, 1, 3, 5, 0, 2, 4};
        int[] coming = {1, 1, 1, 0, 0, 0, 1, 1, 1};
        Due.answer("4: rows of both", x.told(3), facts.length);
        for (int i = 0; i < facts.length; i++) {
            Due.answer("4: fact of row " + i, x.row(i, 1), facts[i]);
            Due.answer("4: row " + i + " comes in", x.row(i, 2), coming[i]);
            Due.answer("4: transaction of row " + i, x.row(i, 0), i < 3 ? 1 : 2);
        }
    }

    private static void abort() {
        ChangeStream x = withFacts(3);
        Due.answer("5: abort of nothing", x.abort(), 0);
        x.change(0, true);
        x.commit();
        x.change(0, false);
        x.change(1, true);
        Due.answer("5: abort", x.abort(), 2);
        Due.answer("5: told(5)", x.told(5), 0);
        Due.answer("5: abort again", x.abort(), 0);
        Due.answer("5: it takes no number", x.commit(), 2);
        Due.answer("5: no rows come of it", x.told(3), 1);
        Due.answer("5: fact 0 is still in", x.contains(0), true);
        Due.answer("5: fact 1 is still out", x.contains(1), false);
        for (int i = 0; i < 20; i++) {
            x.change(2, true);
        }
        Due.answer("5: abort of 20", x.abort(), 20);
        Due.answer("5: change behind it", x.change(2, true), 1);
    }

    private static void contains() {
        ChangeStream x = withFacts(2);
        Due.answer("6: not in at first", x.contains(0), false);
        x.change(0, true);
        Due.answer("6: an open change does not count", x.contains(0), false);
        x.commit();
        Due.answer("6: in", x.contains(0), true);
        Due.answer("6: another fact is not", x.contains(1), false);
        x.change(0, false);
        Due.answer("6: an open change does not count", x.contains(0), true);
        x.commit();
        Due.answer("6: gone", x.contains(0), false);
        Due.badArgument("6: contains(2)", () -> x.contains(2) ? 1 : 0);
        Due.badArgument("6: contains(-1)", () -> x.contains(-1) ? 1 : 0);
        for (int far : FAR) {
            Due.badArgument("6: contains(far)", () -> x.contains(far) ? 1 : 0);
        }
    }

    private static void keep() {
        ChangeStream x = withFacts(1);
        Due.answer("7: keep(30)", x.keep(30), 10);
        Due.answer("7: keep(1)", x.keep(1), 30);
        Due.answer("7: keep(10)", x.keep(10), 1);
        Due.badArgument("7: keep(0)", () -> x.keep(0));
        Due.badArgument("7: keep(31)", () -> x.keep(31));
        for (int far : FAR) {
            Due.badArgument("7: keep(far)", () -> x.keep(far));
        }
        flip(x, 0, 10);
        Due.answer("7: ten are kept", x.told(2), 1);
        flip(x, 0, 1);
        Due.answer("7: the first of eleven is gone", x.told(2), 2);
        Due.answer("7: its row", x.row(0, 0), NONE);
        Due.answer("7: the row behind it", x.row(1, 0), 2);
        x.keep(3);
        Due.answer("7: gone at once", x.told(2), 9);
        Due.answer("7: a row that is gone", x.row(7, 0), NONE);
        Due.answer("7: the first that is kept", x.row(8, 0), 9);
        x.keep(1);
        Due.answer("7: the latest alone", x.told(2), 11);
        Due.answer("7: its row", x.row(10, 0), 11);
        Due.answer("7: rows in all", x.told(3), 11);
        x.commit();
        Due.answer("7: transactions without rows count too", x.row(10, 0), NONE);
    }

    private static void goneStaysGone() {
        ChangeStream x = withFacts(1);
        flip(x, 0, 5);
        x.keep(2);
        x.keep(30);
        Due.answer("7: LEAST does not fall", x.told(2), 4);
        Due.answer("7: a row that was gone", x.row(2, 0), NONE);
        Due.answer("7: a row that was kept", x.row(3, 0), 4);
        flip(x, 0, 27);
        Due.answer("7: 29 are kept", x.told(2), 4);
        flip(x, 0, 2);
        Due.answer("7: 30 are kept, and one more came", x.told(2), 5);
        Due.answer("7: the first of them", x.row(4, 0), 5);
    }

    /** As many rows as 512 calls leave room for. */
    private static void manyRowsAreKept() {
        ChangeStream x = withFacts(20);
        x.keep(30);
        for (int transaction = 1; transaction <= 22; transaction++) {
            for (int fact = 0; fact < 20; fact++) {
                x.change(fact, transaction % 2 == 1);
            }
            x.commit();
        }
        Due.answer("7: rows in all", x.told(3), 440);
        for (int number : new int[] {0, 19, 20, 221, 439}) {
            Due.answer("7: transaction of row " + number, x.row(number, 0), number / 20 + 1);
            Due.answer("7: fact of row " + number, x.row(number, 1), number % 20);
        }
        Due.answer("7: a reader of the first", x.next(x.reader(1, NONE, NONE)), 0);
        Due.answer("7: a reader of the last", x.next(x.reader(22, NONE, NONE)), 420);
    }

    private static void reader() {
        ChangeStream x = withFacts(1);
        Due.badArgument("8: reader(2, ..) before the first commit", () -> x.reader(2, NONE, NONE));
        Due.answer("8: reader of a transaction to come", x.reader(1, NONE, NONE), 0);
        flip(x, 0, 3);
        Due.badArgument("8: reader(0, ..)", () -> x.reader(0, NONE, NONE));
        Due.badArgument("8: reader(5, ..)", () -> x.reader(5, NONE, NONE));
        Due.badArgument("8: graph 8", () -> x.reader(1, 8, NONE));
        Due.badArgument("8: graph -2", () -> x.reader(1, -2, NONE));
        Due.badArgument("8: property 16", () -> x.reader(1, NONE, 16));
        Due.badArgument("8: property -2", () -> x.reader(1, NONE, -2));
        for (int far : FAR) {
            Due.badArgument("8: from far", () -> x.reader(far, NONE, NONE));
            Due.badArgument("8: graph far", () -> x.reader(1, far, NONE));
            Due.badArgument("8: property far", () -> x.reader(1, NONE, far));
        }
        Due.answer("8: reader(2, ..)", x.reader(2, NONE, NONE), 1);
        Due.answer("8: reader(4, ..)", x.reader(4, NONE, NONE), 2);
        Due.answer("8: reader(3, 7, 15)", x.reader(3, 7, 15), 3);
        Due.answer("8: its place", x.about(3, 1), 3);
        Due.answer("8: first row for reader 0", x.next(0), 0);
        Due.answer("8: first row for reader 1", x.next(1), 1);
        Due.answer("8: none yet for reader 2", x.next(2), NONE);
        flip(x, 0, 1);
        Due.answer("8: first row for reader 2", x.next(2), 3);
        x.reader(1, 0, 0);
        Due.answer("8: the sixth", x.reader(1, 0, 0), 5);
        Due.badState("8: a seventh", () -> x.reader(1, NONE, NONE));
        Due.badArgument("8: the argument is looked at first", () -> x.reader(0, NONE, NONE));
        Due.badArgument("8: the argument is looked at first", () -> x.reader(1, 8, NONE));
        Due.badArgument("8: the argument is looked at first", () -> x.reader(1, NONE, 16));
    }

    private static void readerAsks() {
        ChangeStream x = new ChangeStream();
        x.fact(0, 0);
        x.fact(0, 15);
        x.fact(7, 0);
        x.fact(7, 15);
        bringIn(x, 4);
        seen(x, x.reader(1, NONE, NONE), 0, 1, 2, 3);
        seen(x, x.reader(1, 0, NONE), 0, 1);
        seen(x, x.reader(1, NONE, 0), 0, 2);
        seen(x, x.reader(1, 7, 15), 3);
        seen(x, x.reader(1, 7, NONE), 2, 3);
        seen(x, x.reader(1, 3, 0));
    }

    private static void filter() {
        seenThrough(0, 9, 0, 1, 2, 3, 4, 5, 6);
        seenThrough(1, 9, 0, 1, 2, 3, 4);
        seenThrough(2, 9, 5, 6);
        seenThrough(3, 2, 0, 1, 5);
        seenThrough(3, 0);
        seenThrough(3, -1);
        seenThrough(3, Integer.MAX_VALUE, 0, 1, 2, 3, 4, 5, 6);
        seenThrough(4, 2, 0, 2, 4, 6);
        seenThrough(4, -2, 0, 2, 4, 6);
        seenThrough(4, 1, 0, 1, 2, 3, 4, 5, 6);
        seenThrough(4, Integer.MIN_VALUE, 0);
        ChangeStream x = withFacts(1);
        x.reader(1, NONE, NONE);
        Due.badArgument("9: kind 5", () -> Calls.filter(x, 0, 5, 0));
        Due.badArgument("9: kind -1", () -> Calls.filter(x, 0, -1, 0));
        Due.badArgument("9: reader 1", () -> Calls.filter(x, 1, 0, 0));
        Due.badArgument("9: reader -1", () -> Calls.filter(x, -1, 0, 0));
        for (int far : FAR) {
            Due.badArgument("9: reader far", () -> Calls.filter(x, far, 0, 0));
            Due.badArgument("9: kind far", () -> Calls.filter(x, 0, far, 0));
        }
    }

    private static void failingFilter() {
        ChangeStream x = new ChangeStream();
        x.fact(0, 0);
        x.fact(1, 0);
        x.fact(1, 1);
        x.reader(1, 1, NONE);
        x.filter(0, 4, 0);
        x.right(0, 1, false);
        bringIn(x, 3);
        Due.answer("9: a filter that fails shows the row", x.next(0), 2);
        Due.answer("9: rows without graph or right never reach it", x.about(0, 3), 1);
        Due.answer("9: no rows, no failure", x.next(0), NONE);
        Due.answer("9: failures", x.about(0, 3), 1);
        x.filter(0, 3, 0);
        x.resume(0);
        Due.answer("9: number 0 fails for kind 4 alone", x.next(0), NONE);
        Due.answer("9: failures of an earlier filter stay", x.about(0, 3), 1);
    }

    private static void throttle() {
        ChangeStream x = withFacts(20);
        bringIn(x, 20);
        x.reader(1, NONE, NONE);
        takes(x, 0, 0, 5);
        Due.answer("10: five at first", x.next(0), WAIT);
        Due.answer("10: throttle(0, 20)", x.throttle(0, 20), 5);
        takes(x, 0, 5, 20);
        Due.answer("10: all are taken", x.next(0), NONE);
        Due.answer("10: throttle(0, 1)", x.throttle(0, 1), 20);
        x.change(0, false);
        x.commit();
        Due.answer("10: it has more than it may", x.next(0), WAIT);
        x.done(0, 1);
        Due.answer("10: it has none", x.next(0), 20);
        Due.answer("10: what it was", x.throttle(0, 2), 1);
        Due.badArgument("10: throttle(0, 0)", () -> x.throttle(0, 0));
        Due.badArgument("10: throttle(0, 21)", () -> x.throttle(0, 21));
        Due.badArgument("10: throttle(1, 5)", () -> x.throttle(1, 5));
        Due.badArgument("10: throttle(-1, 5)", () -> x.throttle(-1, 5));
        for (int far : FAR) {
            Due.badArgument("10: throttle(far, 5)", () -> x.throttle(far, 5));
            Due.badArgument("10: throttle(0, far)", () -> x.throttle(0, far));
        }
    }

    private static void right() {
        ChangeStream x = withFacts(2);
        x.reader(1, NONE, NONE);
        x.reader(1, NONE, NONE);
        bringIn(x, 2);
        x.right(0, 0, false);
        x.change(0, false);
        x.change(1, false);
        x.commit();
        x.change(0, true);
        x.right(0, 0, true);
        x.commit();
        x.right(0, 0, true);
        x.right(0, 0, false);
        x.change(0, false);
        x.commit();
        x.throttle(0, 20);
        seen(x, 0, 0, 1, 3, 4);
        x.throttle(1, 20);
        seen(x, 1, 0, 1, 2, 3, 4, 5);
        x.resume(0);
        seen(x, 0, 0, 1, 3, 4);
        x.reader(1, NONE, NONE);
        x.throttle(2, 20);
        x.right(2, 0, false);
        seen(x, 2, 0, 1, 2, 3, 4, 5);
    }

    private static void rightsChangedFortyTimes() {
        ChangeStream x = withFacts(2);
        x.reader(1, NONE, NONE);
        x.reader(1, NONE, NONE);
        for (int i = 0; i < 40; i++) {
            x.right(0, 0, i % 2 == 0);
        }
        Due.badState("11: the 41st", () -> Calls.right(x, 0, 1, false));
        Due.badArgument("11: the argument is looked at first", () -> Calls.right(x, 0, 2, false));
        Due.answer("11: another reader", Calls.right(x, 1, 1, false), 0);
        bringIn(x, 2);
        seen(x, 0, 1);
        seen(x, 1, 0);
        Due.badArgument("11: reader 2", () -> Calls.right(x, 2, 0, true));
        Due.badArgument("11: reader -1", () -> Calls.right(x, -1, 0, true));
        Due.badArgument("11: fact 2", () -> Calls.right(x, 1, 2, true));
        Due.badArgument("11: fact -1", () -> Calls.right(x, 1, -1, true));
        for (int far : FAR) {
            Due.badArgument("11: reader far", () -> Calls.right(x, far, 0, true));
            Due.badArgument("11: fact far", () -> Calls.right(x, 1, far, true));
        }
    }

    private static void next() {
        ChangeStream x = withFacts(2);
        x.reader(1, NONE, NONE);
        Due.answer("12: nothing yet", x.next(0), NONE);
        x.commit();
        x.commit();
        Due.answer("12: transactions without rows", x.next(0), NONE);
        Due.answer("12: at the transaction to come", x.about(0, 1), 3);
        bringIn(x, 2);
        Due.answer("12: row 0", x.next(0), 0);
        Due.answer("12: row 1", x.next(0), 1);
        Due.answer("12: behind the last row it is still in 3", x.about(0, 1), 3);
        Due.answer("12: none more", x.next(0), NONE);
        Due.answer("12: and it is in 4", x.about(0, 1), 4);
        x.filter(0, 2, 0);
        x.change(0, false);
        x.commit();
        x.change(0, true);
        x.commit();
        x.filter(0, 1, 0);
        Due.answer("12: over rows that it does not see", x.next(0), 3);
        x.filter(0, 0, 0);
        Due.answer("12: what it went over does not come again", x.next(0), NONE);
        for (int wrong : new int[] {1, -1, Integer.MIN_VALUE, Integer.MAX_VALUE}) {
            Due.badArgument("12: next(" + wrong + ")", () -> x.next(wrong));
        }
    }

    private static void nextGap() {
        ChangeStream x = withFacts(2);
        x.reader(1, NONE, NONE);
        bringIn(x, 2);
        Due.answer("12: row 0", x.next(0), 0);
        x.keep(2);
        x.commit();
        Due.answer("12: transaction 1 is LEAST still", x.next(0), 1);
        x.commit();
        Due.answer("12: LEAST", x.told(2), 2);
        Due.answer("12: behind the last row of 1 it is too late", x.next(0), GAP);
        Due.answer("12: at LEAST", x.about(0, 1), 2);
        Due.answer("12: missed", x.about(0, 2), 1);
        flip(x, 0, 4);
        Due.answer("12: too late again", x.next(0), GAP);
        Due.answer("12: missed in all", x.about(0, 2), 5);
        Due.answer("12: the first row of LEAST", x.next(0), 4);
        Due.answer("12: its transaction", x.about(0, 1), 6);
        Due.answer("12: what it took stays taken", x.about(0, 0), 3);
        Due.answer("12: a reader that begins too late", x.next(x.reader(2, NONE, NONE)), GAP);
        Due.answer("12: it missed", x.about(1, 2), 4);
        Due.answer("12: it goes on", x.next(1), 4);
        Due.answer("12: a reader at LEAST", x.next(x.reader(6, NONE, NONE)), 4);
        x.throttle(0, 1);
        x.keep(1);
        Due.answer("12: GAP comes before WAIT", x.next(0), GAP);
        Due.answer("12: WAIT behind it", x.next(0), WAIT);
        x.filter(0, 3, 0);
        flip(x, 0, 1);
        Due.answer("12: GAP comes before NONE", x.next(0), GAP);
        Due.answer("12: NONE behind it", x.next(0), NONE);
    }

    private static void nextWait() {
        ChangeStream x = withFacts(3);
        x.reader(1, NONE, NONE);
        x.throttle(0, 1);
        bringIn(x, 1);
        x.commit();
        flip(x, 1, 1);
        x.change(2, true);
        x.commit();
        Due.answer("12: row 0", x.next(0), 0);
        x.filter(0, 4, 2);
        Due.answer("12: it sees row 2, but must wait", x.next(0), WAIT);
        Due.answer("12: it is at that row", x.about(0, 1), 4);
        x.filter(0, 4, 0);
        Due.answer("12: it waits", x.next(0), WAIT);
        Due.answer("12: it waits", x.next(0), WAIT);
        Due.answer("12: failures, each time", x.about(0, 3), 2);
        Due.answer("12: nothing was taken", x.about(0, 4), 1);
        x.filter(0, 1, 0);
        x.done(0, 1);
        Due.answer("12: row 2, not row 1 that it went over", x.next(0), 2);
        Due.answer("12: full, but there is no row to see", x.next(0), NONE);
    }

    private static void done() {
        ChangeStream x = withFacts(3);
        x.reader(1, NONE, NONE);
        x.throttle(0, 20);
        bringIn(x, 3);
        flip(x, 0, 3);
        takes(x, 0, 0, 6);
        Due.answer("13: done(0, 0)", x.done(0, 0), 0);
        Due.answer("13: done(0, 1)", x.done(0, 1), 3);
        Due.answer("13: done again", x.done(0, 1), 0);
        Due.answer("13: rows not done", x.about(0, 0), 3);
        Due.answer("13: done(0, 3)", x.done(0, 3), 2);
        Due.answer("13: of what is not done", x.resume(0), 1);
        Due.answer("13: row 5", x.next(0), 5);
        Due.answer("13: done(0, 4)", x.done(0, 4), 1);
        Due.answer("13: the place stays", x.next(0), NONE);
        Due.badArgument("13: done(0, 5)", () -> x.done(0, 5));
        Due.badArgument("13: done(0, -1)", () -> x.done(0, -1));
        Due.badArgument("13: done(1, 0)", () -> x.done(1, 0));
        Due.badArgument("13: done(-1, 0)", () -> x.done(-1, 0));
        for (int far : FAR) {
            Due.badArgument("13: done(far, 0)", () -> x.done(far, 0));
            Due.badArgument("13: done(0, far)", () -> x.done(0, far));
        }
    }

    private static void resume() {
        ChangeStream x = withFacts(4);
        x.reader(1, NONE, NONE);
        Due.answer("14: nothing taken", x.resume(0), 0);
        bringIn(x, 3);
        x.change(3, true);
        x.change(0, false);
        x.commit();
        takes(x, 0, 0, 2);
        Due.answer("14: resume", x.resume(0), 2);
        Due.answer("14: none taken", x.about(0, 0), 0);
        Due.answer("14: resume once more", x.resume(0), 0);
        takes(x, 0, 0, 5);
        Due.answer("14: taken in all", x.about(0, 4), 7);
        x.done(0, 1);
        Due.answer("14: resume behind what is done", x.resume(0), 2);
        Due.answer("14: its transaction", x.about(0, 1), 2);
        Due.answer("14: its row", x.next(0), 3);
        x.done(0, 2);
        Due.answer("14: resume with all done", x.resume(0), 0);
        Due.answer("14: the place stays", x.next(0), 4);
        x.filter(0, 1, 0);
        x.reader(1, NONE, NONE);
        x.filter(1, 4, 2);
        Due.answer("14: row 0", x.next(1), 0);
        x.done(1, 1);
        Due.answer("14: row 2", x.next(1), 2);
        Due.answer("14: resume", x.resume(1), 1);
        x.filter(1, 0, 0);
        Due.answer("14: at row 2 itself, not at its transaction's first", x.next(1), 2);
        for (int wrong : new int[] {2, -1, Integer.MIN_VALUE, Integer.MAX_VALUE}) {
            Due.badArgument("14: resume(" + wrong + ")", () -> x.resume(wrong));
        }
    }

    private static void resumeTooLate() {
        ChangeStream x = withFacts(1);
        x.reader(1, NONE, NONE);
        flip(x, 0, 4);
        takes(x, 0, 0, 4);
        x.keep(2);
        Due.answer("14: rows that are gone are taken still", x.about(0, 0), 4);
        Due.answer("14: done of rows that are gone", x.done(0, 1), 1);
        Due.answer("14: resume at a row that is gone", x.resume(0), 3);
        Due.answer("14: its transaction", x.about(0, 1), 2);
        Due.answer("14: too late", x.next(0), GAP);
        Due.answer("14: missed", x.about(0, 2), 1);
        Due.answer("14: row 2", x.next(0), 2);
    }

    private static void row() {
        ChangeStream x = new ChangeStream();
        x.fact(3, 9);
        x.fact(7, 15);
        x.commit();
        x.change(1, true);
        x.commit();
        x.change(1, false);
        x.change(0, true);
        x.commit();
        int[][] due = {{2, 1, 1, 7, 15}, {3, 1, 0, 7, 15}, {3, 0, 1, 3, 9}};
        for (int i = 0; i < due.length; i++) {
            for (int what = 0; what < 5; what++) {
                Due.answer("15: row(" + i + ", " + what + ")", x.row(i, what), due[i][what]);
            }
        }
        x.keep(1);
        for (int what = 0; what < 5; what++) {
            Due.answer("15: a row that is gone", x.row(0, what), NONE);
            Due.answer("15: a row that is kept", x.row(2, what), due[2][what]);
        }
        Due.badArgument("15: row(3, 0)", () -> x.row(3, 0));
        Due.badArgument("15: row(-1, 0)", () -> x.row(-1, 0));
        Due.badArgument("15: row(2, 5)", () -> x.row(2, 5));
        Due.badArgument("15: row(2, -1)", () -> x.row(2, -1));
        Due.badArgument("15: what is looked at for rows that are gone too", () -> x.row(0, 5));
        for (int far : FAR) {
            Due.badArgument("15: row(far, 0)", () -> x.row(far, 0));
            Due.badArgument("15: row(0, far)", () -> x.row(0, far));
        }
    }

    private static void about() {
        ChangeStream x = withFacts(2);
        x.commit();
        x.reader(2, NONE, NONE);
        int[] atFirst = {0, 2, 0, 0, 0};
        for (int what = 0; what < 5; what++) {
            Due.answer("16: about(0, " + what + ")", x.about(0, what), atFirst[what]);
        }
        x.filter(0, 4, 0);
        bringIn(x, 2);
        takes(x, 0, 0, 2);
        x.done(0, 1);
        x.resume(0);
        takes(x, 0, 0, 1);
        x.keep(1);
        x.commit();
        x.commit();
        x.next(0);
        int[] then = {1, 4, 2, 3, 3};
        for (int what = 0; what < 5; what++) {
            Due.answer("16: about(0, " + what + ")", x.about(0, what), then[what]);
        }
        Due.badArgument("16: about(0, 5)", () -> x.about(0, 5));
        Due.badArgument("16: about(0, -1)", () -> x.about(0, -1));
        Due.badArgument("16: about(1, 0)", () -> x.about(1, 0));
        Due.badArgument("16: about(-1, 0)", () -> x.about(-1, 0));
        for (int far : FAR) {
            Due.badArgument("16: about(far, 0)", () -> x.about(far, 0));
            Due.badArgument("16: about(0, far)", () -> x.about(0, far));
        }
    }

    private static void told() {
        ChangeStream x = withFacts(3);
        x.keep(2);
        bringIn(x, 3);
        x.commit();
        x.commit();
        x.commit();
        x.reader(1, NONE, NONE);
        x.reader(1, NONE, NONE);
        x.change(0, true);
        int[] due = {3, 4, 3, 3, 2, 1};
        for (int what = 0; what < 6; what++) {
            Due.answer("17: told(" + what + ")", x.told(what), due[what]);
        }
        Due.badArgument("17: told(6)", () -> x.told(6));
        Due.badArgument("17: told(-1)", () -> x.told(-1));
        for (int far : FAR) {
            Due.badArgument("17: told(far)", () -> x.told(far));
        }
    }

    private static void refusedCallsChangeNothing() {
        ChangeStream x = withFacts(2);
        x.reader(1, NONE, NONE);
        x.keep(4);
        bringIn(x, 2);
        x.next(0);
        x.change(0, false);
        Due.badArgument("fact", () -> x.fact(0, 16));
        Due.badArgument("change", () -> x.change(2, true));
        Due.badArgument("keep", () -> x.keep(31));
        Due.badArgument("reader", () -> x.reader(1, 0, 16));
        Due.badArgument("filter", () -> Calls.filter(x, 0, 5, 0));
        Due.badArgument("throttle", () -> x.throttle(0, 21));
        Due.badArgument("right", () -> Calls.right(x, 0, 2, false));
        Due.badArgument("done", () -> x.done(0, 2));
        int[] told = {2, 1, 1, 2, 1, 1};
        for (int what = 0; what < told.length; what++) {
            Due.answer("told(" + what + ") behind refused calls", x.told(what), told[what]);
        }
        int[] about = {1, 1, 0, 0, 1};
        for (int what = 0; what < about.length; what++) {
            Due.answer("about(0, " + what + ") behind refused calls", x.about(0, what), about[what]);
        }
        Due.answer("keep behind refused calls", x.keep(4), 4);
        Due.answer("throttle behind refused calls", x.throttle(0, 5), 5);
        Due.answer("next behind refused calls", x.next(0), 1);
    }

    private static ChangeStream withFacts(int count) {
        ChangeStream x = new ChangeStream();
        for (int i = 0; i < count; i++) {
            x.fact(0, 0);
        }
        return x;
    }

    /** One transaction in which facts 0 .. count - 1 come in. */
    private static void bringIn(ChangeStream x, int count) {
        for (int fact = 0; fact < count; fact++) {
            x.change(fact, true);
        }
        x.commit();
    }

    /** So many transactions of one row each: the fact comes in or goes, by turns. */
    private static void flip(ChangeStream x, int fact, int times) {
        for (int i = 0; i < times; i++) {
            x.change(fact, !x.contains(fact));
            x.commit();
        }
    }

    private static void takes(ChangeStream x, int reader, int from, int behind) {
        for (int number = from; number < behind; number++) {
            Due.answer("next(" + reader + ") for row " + number, x.next(reader), number);
        }
    }

    private static void seen(ChangeStream x, int reader, int... rows) {
        for (int number : rows) {
            Due.answer("next(" + reader + ") for row " + number, x.next(reader), number);
        }
        Due.answer("next(" + reader + ") behind the rows it sees", x.next(reader), NONE);
    }

    /** What a reader with this filter sees of five facts that come in, of which 1 and 4 go again: rows 5 and 6. */
    private static void seenThrough(int kind, int number, int... rows) {
        ChangeStream x = withFacts(5);
        bringIn(x, 5);
        x.change(1, false);
        x.change(4, false);
        x.commit();
        x.reader(1, NONE, NONE);
        x.throttle(0, 20);
        x.filter(0, kind, number);
        seen(x, 0, rows);
        Due.answer("9: no failures", x.about(0, 3), 0);
    }
}
