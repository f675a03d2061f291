/** What is kept and told, promises 7, 15 and 17, the terms KEPT and LEAST, and the last of 512 calls. */
public final class KeepTest {
    private static final int NONE = Streams.NONE;

    public static void main(String[] args) {
        tenAreKeptAtFirst();
        leastWithoutTransactions();
        leastWithFewTransactions();
        keepIsOneToThirty();
        keepTellsWhatWas();
        oneIsKept();
        thirtyAreKept();
        asManyKeptAsThereAre();
        olderOnesAreGoneAtOnce();
        goneStaysGone();
        readersOfWhatIsGone();
        moreAreKeptFromNowOn();
        transactionsWithoutRowsCount();
        nothingKeptHasRows();
        keepLeavesTheOpenTransaction();
        rowIsOneThatThereIs();
        rowTellsFiveThings();
        rowThatIsNotKept();
        rowThatIsNotKeptAndWhat();
        toldIsSixThings();
        toldCountsWhatIsGone();
        lastCallOfManyRows();
        lastCallOfManyTransactions();
        lastCallOfManyFacts();
        Due.end();
    }

    /** Terms: "KEPT are the rows of the latest n transactions (n is 10 at first)" */
    private static void tenAreKeptAtFirst() {
        theLatestAreKept(Streams.withFacts(1), 10);
    }

    /** Terms: "LEAST is the number of the first of them, 1 without one." */
    private static void leastWithoutTransactions() {
        ChangeStream x = Streams.withFacts(1);
        Due.answer("7: LEAST at first", x.told(2), 1);
        x.keep(1);
        Due.answer("7: LEAST with one kept", x.told(2), 1);
        x.keep(30);
        Due.answer("7: LEAST with thirty kept", x.told(2), 1);
        x.change(0, true);
        Due.answer("7: LEAST with an open transaction", x.told(2), 1);
    }

    private static void leastWithFewTransactions() {
        ChangeStream x = new ChangeStream();
        x.keep(1);
        x.commit();
        Due.answer("7: LEAST of one", x.told(2), 1);
        x.commit();
        Due.answer("7: LEAST of two", x.told(2), 2);
        x.commit();
        Due.answer("7: LEAST of three", x.told(2), 3);
    }

    /** Promise 7: "IllegalArgumentException: n is not 1 .. 30." */
    private static void keepIsOneToThirty() {
        ChangeStream x = Streams.withFacts(1);
        Streams.flip(x, 0, 3);
        Due.badArgument("7: keep(0)", () -> x.keep(0));
        Due.badArgument("7: keep(31)", () -> x.keep(31));
        Due.answer("7: LEAST behind refused calls", x.told(2), 1);
        Due.answer("7: keep(30)", x.keep(30), 10);
        Due.badArgument("7: keep(0)", () -> x.keep(0));
        Due.answer("7: keep(1)", x.keep(1), 30);
        Due.badArgument("7: keep(31)", () -> x.keep(31));
        Due.answer("7: what is kept behind refused calls", x.keep(1), 1);
    }

    /** Promise 7: "how many were." */
    private static void keepTellsWhatWas() {
        ChangeStream x = Streams.withFacts(1);
        Due.answer("7: at first", x.keep(4), 10);
        Due.answer("7: then", x.keep(4), 4);
        Streams.flip(x, 0, 2);
        Due.answer("7: n, not how many transactions there are", x.keep(7), 4);
    }

    private static void oneIsKept() {
        ChangeStream x = Streams.withFacts(1);
        x.keep(1);
        theLatestAreKept(x, 1);
    }

    private static void thirtyAreKept() {
        ChangeStream x = Streams.withFacts(1);
        x.keep(30);
        theLatestAreKept(x, 30);
    }

    private static void asManyKeptAsThereAre() {
        ChangeStream x = Streams.withFacts(1);
        Streams.flip(x, 0, 5);
        x.keep(6);
        Due.answer("7: more than there are", x.told(2), 1);
        x.keep(5);
        Due.answer("7: as many as there are", x.told(2), 1);
        Due.answer("7: the first row", x.row(0, 0), 1);
        x.keep(4);
        Due.answer("7: one fewer", x.told(2), 2);
        Due.answer("7: the first row", x.row(0, 0), NONE);
    }

    /** Promise 7: "(older ones are gone at once)" */
    private static void olderOnesAreGoneAtOnce() {
        ChangeStream x = Streams.withFacts(1);
        Streams.flip(x, 0, 10);
        x.keep(3);
        Due.answer("7: LEAST", x.told(2), 8);
        Due.answer("7: the last that is gone", x.row(6, 0), NONE);
        Due.answer("7: the first that is kept", x.row(7, 0), 8);
        x.keep(1);
        Due.answer("7: LEAST", x.told(2), 10);
        Due.answer("7: the last that is gone", x.row(8, 0), NONE);
        Due.answer("7: the first that is kept", x.row(9, 0), 10);
        Due.answer("7: rows in all", x.told(3), 10);
    }

    private static void goneStaysGone() {
        ChangeStream x = Streams.withFacts(1);
        Streams.flip(x, 0, 5);
        x.keep(2);
        x.keep(30);
        Due.answer("7: LEAST does not fall", x.told(2), 4);
        Due.answer("7: a row that was gone", x.row(2, 0), NONE);
        Due.answer("7: a row that was kept", x.row(3, 0), 4);
    }

    /** Neither a reader that is too late nor one that asks for its rows again gets rows back by a larger keep. */
    private static void readersOfWhatIsGone() {
        ChangeStream x = Streams.withReader(1);
        x.reader(1, NONE, NONE);
        Streams.flip(x, 0, 5);
        Streams.takes(x, 0, 0, 5);
        x.keep(2);
        x.keep(30);
        Due.answer("7: a row that is taken and gone", x.row(0, 0), NONE);
        Due.answer("7: its reader asks for five again", x.resume(0), 5);
        Due.answer("7: and is too late", x.next(0), Streams.GAP);
        Streams.sees(x, 0, 3, 4);
        Due.answer("7: a reader that was too late is so still", x.next(1), Streams.GAP);
        Streams.about("7: by three", x, 1, 0, 4, 3, 0, 0);
        Due.answer("7: and so is a new one", x.next(x.reader(3, NONE, NONE)), Streams.GAP);
        Streams.sees(x, 2, 3, 4);
    }

    /** Promise 7: "So many transactions' rows are KEPT from now on" */
    private static void moreAreKeptFromNowOn() {
        ChangeStream x = Streams.withFacts(1);
        Streams.flip(x, 0, 5);
        x.keep(2);
        x.keep(4);
        Streams.flip(x, 0, 2);
        Due.answer("7: LEAST with four kept", x.told(2), 4);
        Due.answer("7: the first of them", x.row(3, 0), 4);
        Streams.flip(x, 0, 1);
        Due.answer("7: LEAST with one more", x.told(2), 5);
        Due.answer("7: the one that is gone", x.row(3, 0), NONE);
    }

    private static void transactionsWithoutRowsCount() {
        ChangeStream x = Streams.withFacts(1);
        x.keep(3);
        Streams.flip(x, 0, 1);
        Streams.commitEmpty(x, 2);
        Due.answer("7: the row of the first of three", x.row(0, 0), 1);
        x.commit();
        Due.answer("7: the row of the first of four", x.row(0, 0), NONE);
        Due.answer("7: LEAST has no rows", x.told(2), 2);
    }

    private static void nothingKeptHasRows() {
        ChangeStream x = Streams.withReader(1);
        Streams.flip(x, 0, 1);
        x.commit();
        x.keep(1);
        Due.answer("7: the only row", x.row(0, 0), NONE);
        Due.answer("7: rows in all", x.told(3), 1);
        Due.answer("7: a reader of it is too late", x.next(0), Streams.GAP);
        Due.answer("7: and sees nothing", x.next(0), NONE);
        Streams.flip(x, 0, 1);
        Due.answer("7: till a row comes", x.next(0), 1);
    }

    private static void keepLeavesTheOpenTransaction() {
        ChangeStream x = Streams.withFacts(2);
        Streams.flip(x, 0, 3);
        x.change(1, true);
        x.keep(1);
        Due.answer("7: its changes", x.told(5), 1);
        Due.answer("7: the latest one committed is kept", x.row(2, 0), 3);
        x.commit();
        Due.answer("7: till it is committed", x.row(2, 0), NONE);
        Due.answer("7: its row", x.row(3, 0), 4);
    }

    /** Promise 15: "IllegalArgumentException": there is no such row. */
    private static void rowIsOneThatThereIs() {
        ChangeStream x = Streams.withFacts(3);
        Due.badArgument("15: row(0, 0) without rows", () -> x.row(0, 0));
        Streams.changeAll(x, 3, true);
        Due.badArgument("15: row(0, 0) of an open transaction", () -> x.row(0, 0));
        x.commit();
        Due.badArgument("15: row(-1, 0)", () -> x.row(-1, 0));
        Due.answer("15: row(0, 0)", x.row(0, 0), 1);
        Due.answer("15: row(2, 0)", x.row(2, 0), 1);
        Due.badArgument("15: row(3, 0)", () -> x.row(3, 0));
    }

    /** Promise 15: "its transaction (what = 0), fact (1), 1 if it comes in (2), graph (3), property (4)" */
    private static void rowTellsFiveThings() {
        ChangeStream x = new ChangeStream();
        x.fact(3, 9);
        x.fact(7, 15);
        x.commit();
        x.change(1, true);
        x.commit();
        x.change(1, false);
        x.change(0, true);
        x.commit();
        Streams.row("15", x, 0, 2, 1, 1, 7, 15);
        Streams.row("15", x, 1, 3, 1, 0, 7, 15);
        Streams.row("15", x, 2, 3, 0, 1, 3, 9);
        Due.badArgument("15: row(2, -1)", () -> x.row(2, -1));
        Due.badArgument("15: row(2, 5)", () -> x.row(2, 5));
    }

    /** Promise 15: "NONE if it is not KEPT." */
    private static void rowThatIsNotKept() {
        ChangeStream x = Streams.withFacts(3);
        Streams.bringIn(x, 2);
        x.change(0, false);
        x.change(2, true);
        x.commit();
        x.keep(1);
        Streams.row("15: the first that is gone", x, 0, NONE, NONE, NONE, NONE, NONE);
        Streams.row("15: the last that is gone", x, 1, NONE, NONE, NONE, NONE, NONE);
        Streams.row("15: the first that is kept", x, 2, 2, 0, 0, 0, 0);
        Streams.row("15: the last that is kept", x, 3, 2, 2, 1, 2, 2);
    }

    private static void rowThatIsNotKeptAndWhat() {
        ChangeStream x = Streams.withFacts(1);
        Streams.flip(x, 0, 2);
        x.keep(1);
        Due.badArgument("15: row(0, -1), gone", () -> x.row(0, -1));
        Due.badArgument("15: row(0, 5), gone", () -> x.row(0, 5));
        Due.badArgument("15: row(-1, 0), below those that are gone", () -> x.row(-1, 0));
    }

    /** Promise 17: "Facts (what = 0), transactions (1), LEAST (2), rows in all (3), readers (4), changes .. (5)." */
    private static void toldIsSixThings() {
        ChangeStream x = Streams.withFacts(7);
        x.keep(2);
        Streams.bringIn(x, 5);
        Streams.commitEmpty(x, 3);
        x.reader(1, NONE, NONE);
        x.reader(1, NONE, NONE);
        x.change(0, true);
        Streams.told("17", x, 7, 4, 3, 5, 2, 1);
        Due.badArgument("17: told(-1)", () -> x.told(-1));
        Due.badArgument("17: told(6)", () -> x.told(6));
    }

    private static void toldCountsWhatIsGone() {
        ChangeStream x = Streams.withFacts(1);
        x.keep(1);
        Streams.flip(x, 0, 20);
        Streams.told("17", x, 1, 20, 20, 20, 0, 0);
    }

    /** What it is: "An object is used for at most 512 calls": as many rows as these leave room for. */
    private static void lastCallOfManyRows() {
        ChangeStream x = Streams.withFacts(20);
        x.keep(30);
        for (int transaction = 1; transaction <= 22; transaction++) {
            Streams.changeAll(x, 20, transaction % 2 == 1);
            x.commit();
        }
        x.reader(22, NONE, NONE);
        x.throttle(0, 20);
        Due.answer("rows in all", x.told(3), 440);
        Due.answer("transaction of the first row", x.row(0, 0), 1);
        Due.answer("fact of row 219", x.row(219, 1), 19);
        Due.answer("row 220, of transaction 12, goes", x.row(220, 2), 0);
        Due.answer("fact of the last row", x.row(439, 1), 19);
        Streams.takes(x, 0, 420, 440);
        Due.answer("the 511th call", x.next(0), NONE);
        Due.answer("the 512th call", x.done(0, 22), 20);
    }

    /** As many transactions as 512 calls leave room for. */
    private static void lastCallOfManyTransactions() {
        ChangeStream x = new ChangeStream();
        x.keep(1);
        x.reader(1, NONE, NONE);
        for (int number = 1; number <= 508; number++) {
            Due.answer("commit " + number, x.commit(), number);
        }
        Due.answer("too late", x.next(0), Streams.GAP);
        Due.answer("the 512th call: missed", x.about(0, 2), 507);
    }

    /** All facts come in five transactions and go in five more. */
    private static void lastCallOfManyFacts() {
        ChangeStream x = Streams.withFacts(100);
        for (int turn = 0; turn < 10; turn++) {
            for (int i = 0; i < 20; i++) {
                x.change(turn % 5 * 20 + i, turn < 5);
            }
            x.commit();
        }
        Due.answer("rows in all", x.told(3), 200);
        for (int i = 0; i < 200; i++) {
            Due.answer("fact of row " + i, x.row(i, 1), i % 100);
        }
        Due.answer("the 512th call", x.told(2), 1);
    }

    private static void theLatestAreKept(ChangeStream x, int n) {
        Streams.flip(x, 0, n);
        Due.answer("7: LEAST of " + n, x.told(2), 1);
        Due.answer("7: the first row of " + n, x.row(0, 0), 1);
        Streams.flip(x, 0, 1);
        Due.answer("7: LEAST of one more than " + n, x.told(2), 2);
        Due.answer("7: the first row of one more than " + n, x.row(0, 0), NONE);
        Due.answer("7: the second row of one more than " + n, x.row(1, 0), 2);
    }
}
