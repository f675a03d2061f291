/** What readers take, promises 12, 13, 14 and 16, and the terms TAKEN and DONE: a test for each sentence. */
public final class NextTest {
    private static final int NONE = Streams.NONE;
    private static final int WAIT = Streams.WAIT;
    private static final int GAP = Streams.GAP;

    public static void main(String[] args) {
        eachRowOnce();
        onceUntilAskedForAgain();
        noneWithoutRows();
        noneMovesOn();
        noneBehindRowsThatAreNotSeen();
        noneWhenAsManyAreTaken();
        gapBelowLeast();
        gapBehindTheLastRow();
        gapInTheMiddleOfATransaction();
        gapToALeastWithoutRows();
        gapBeforeWait();
        gapBeforeNone();
        gapAsksNoFilter();
        gapLeavesWhatIsTaken();
        gapAfterGap();
        noGapAtTheTransactionToCome();
        waitAtTheRowThatIsSeen();
        waitGoesOverRowsForGood();
        waitCountsFailuresEachTime();
        waitTakesNothing();
        gapFromARowThatWasWaitedFor();
        nextOfReadersThatThereAre();
        doneNumberIsZeroToAsManyAsThereAre();
        doneIsUpToANumber();
        doneOfNothing();
        doneOfTwenty();
        doneOfRowsThatAreGone();
        doneLeavesThePlace();
        doneOfReadersThatThereAre();
        resumeWithNothingTaken();
        resumeAtTheFirstTaken();
        resumeAtTheFirstNotDone();
        resumeAtARowInTheMiddle();
        resumeWithAllDone();
        resumeWhileWaiting();
        resumeBehindNone();
        resumeAtARowThatIsGone();
        resumeSeesByWhatCountsNow();
        resumeOfReadersThatThereAre();
        aboutIsFiveThings();
        aboutTheTransactionItIsIn();
        aboutWhatItMissed();
        aboutRowsTakenAgain();
        aboutReadersThatThereAre();
        Due.end();
    }

    /** Promise 12: "The next row that a reader SEES is TAKEN: its number, and the reader is behind it" */
    private static void eachRowOnce() {
        ChangeStream x = Streams.withReader(3);
        Streams.bringIn(x, 3);
        x.commit();
        Streams.flip(x, 1, 2);
        for (int number = 0; number < 5; number++) {
            Due.answer("12: row " + number, x.next(0), number);
            Due.answer("12: taken", x.about(0, 0), number + 1);
            Due.answer("12: its transaction", x.about(0, 1), x.row(number, 0));
        }
        Due.answer("12: none more", x.next(0), NONE);
    }

    /** What it is: "each transaction's rows in order, exactly once until they are asked for again" */
    private static void onceUntilAskedForAgain() {
        ChangeStream x = Streams.withReader(3);
        x.reader(1, NONE, NONE);
        x.throttle(0, 2);
        for (int row = 0; row < 60; row += 3) {
            Streams.changeAll(x, 3, row % 2 == 0);
            int transaction = x.commit();
            Streams.takes(x, 0, row, row + 2);
            Due.answer("12: the third waits", x.next(0), WAIT);
            Due.answer("12: done", x.done(0, transaction), 2);
            Streams.sees(x, 0, row + 2);
            Due.answer("12: done", x.done(0, transaction), 1);
            Streams.sees(x, 1, row, row + 1, row + 2);
            Due.answer("12: asked for again", x.resume(1), 3);
            Streams.sees(x, 1, row, row + 1, row + 2);
            Due.answer("12: done", x.done(1, transaction), 3);
        }
        Due.answer("12: each once", x.about(0, 4), 60);
        Due.answer("12: each twice", x.about(1, 4), 120);
    }

    /** Promise 12: "NONE if there is none" */
    private static void noneWithoutRows() {
        ChangeStream x = Streams.withReader(1);
        Due.answer("12: without transactions", x.next(0), NONE);
        Due.answer("12: at the first to come", x.about(0, 1), 1);
        x.change(0, true);
        Due.answer("12: an open change is no row", x.next(0), NONE);
        x.abort();
        Streams.commitEmpty(x, 2);
        Due.answer("12: transactions without rows", x.next(0), NONE);
        Streams.about("12: none taken", x, 0, 0, 3, 0, 0, 0);
    }

    /** Promise 12: "(the reader is at the first row of the transaction to come then)" */
    private static void noneMovesOn() {
        ChangeStream x = Streams.withReader(2);
        Streams.bringIn(x, 2);
        Streams.sees(x, 0, 0, 1);
        Due.answer("12: at the one to come", x.about(0, 1), 2);
        Due.answer("12: still none", x.next(0), NONE);
        Due.answer("12: still there", x.about(0, 1), 2);
        x.commit();
        Due.answer("12: a commit does not move it", x.about(0, 1), 2);
        Streams.flip(x, 1, 1);
        Due.answer("12: the first row to come", x.next(0), 2);
        Due.answer("12: in its transaction", x.about(0, 1), 3);
    }

    private static void noneBehindRowsThatAreNotSeen() {
        ChangeStream x = Streams.withReader(2);
        x.filter(0, 2, 0);
        Streams.bringIn(x, 2);
        Due.answer("12: rows that come are not seen", x.next(0), NONE);
        Due.answer("12: at the one to come", x.about(0, 1), 2);
        x.filter(0, 0, 0);
        Due.answer("12: they do not come again", x.next(0), NONE);
    }

    private static void noneWhenAsManyAreTaken() {
        ChangeStream x = Streams.withReader(1);
        x.throttle(0, 1);
        Streams.flip(x, 0, 1);
        Due.answer("12: as many as it may", x.next(0), 0);
        Due.answer("12: there is none to wait for", x.next(0), NONE);
        Due.answer("12: at the one to come", x.about(0, 1), 2);
    }

    /** Promise 12: "if its place is in a transaction below LEAST, GAP: it is at the first row of LEAST then" */
    private static void gapBelowLeast() {
        ChangeStream x = Streams.withReader(2);
        x.keep(3);
        Streams.flip(x, 0, 3);
        Due.answer("12: in LEAST itself", x.next(0), 0);
        x.resume(0);
        Streams.flip(x, 0, 1);
        Due.answer("12: one below LEAST", x.next(0), GAP);
        Streams.about("12: at LEAST", x, 0, 0, 2, 1, 0, 1);
        Streams.sees(x, 0, 1, 2, 3);
    }

    private static void gapBehindTheLastRow() {
        ChangeStream x = Streams.withReader(1);
        x.keep(1);
        Streams.flip(x, 0, 1);
        Due.answer("12: the last row of 1", x.next(0), 0);
        Streams.flip(x, 0, 1);
        Due.answer("12: behind it the reader is in 1 still", x.next(0), GAP);
        Due.answer("12: missed", x.about(0, 2), 1);
        Due.answer("12: the row of 2", x.next(0), 1);
    }

    private static void gapInTheMiddleOfATransaction() {
        ChangeStream x = Streams.withReader(3);
        x.keep(2);
        Streams.bringIn(x, 3);
        Due.answer("12: row 0", x.next(0), 0);
        Streams.flip(x, 0, 1);
        Due.answer("12: row 1, kept still", x.next(0), 1);
        Streams.flip(x, 0, 1);
        Due.answer("12: row 2, gone", x.next(0), GAP);
        Streams.sees(x, 0, 3, 4);
    }

    private static void gapToALeastWithoutRows() {
        ChangeStream x = Streams.withReader(1);
        x.keep(2);
        Streams.flip(x, 0, 1);
        Streams.commitEmpty(x, 3);
        Due.answer("12: too late", x.next(0), GAP);
        Due.answer("12: at LEAST, which has no rows", x.about(0, 1), 3);
        Streams.flip(x, 0, 1);
        Due.answer("12: too late again", x.next(0), GAP);
        Due.answer("12: the first row behind LEAST", x.next(0), 1);
        Streams.about("12", x, 0, 1, 5, 3, 0, 1);
    }

    /** Promise 12: "Before:" */
    private static void gapBeforeWait() {
        ChangeStream x = Streams.withReader(1);
        x.throttle(0, 1);
        Streams.flip(x, 0, 1);
        Streams.takes(x, 0, 0, 1);
        Streams.flip(x, 0, 2);
        x.keep(1);
        Due.answer("12: first the gap", x.next(0), GAP);
        Due.answer("12: then the wait", x.next(0), WAIT);
    }

    private static void gapBeforeNone() {
        ChangeStream x = Streams.withReader(1);
        x.filter(0, 3, 0);
        Streams.flip(x, 0, 2);
        x.keep(1);
        Due.answer("12: first the gap", x.next(0), GAP);
        Due.answer("12: then none", x.next(0), NONE);
    }

    private static void gapAsksNoFilter() {
        ChangeStream x = Streams.withReader(1);
        x.filter(0, 4, 0);
        Streams.flip(x, 0, 3);
        x.keep(1);
        Due.answer("12: the gap", x.next(0), GAP);
        Streams.about("12: nothing failed, nothing is taken", x, 0, 0, 3, 2, 0, 0);
        Due.answer("12: the row", x.next(0), 2);
        Due.answer("12: its failure", x.about(0, 3), 1);
    }

    private static void gapLeavesWhatIsTaken() {
        ChangeStream x = Streams.withReader(1);
        Streams.flip(x, 0, 4);
        Streams.takes(x, 0, 0, 2);
        x.keep(1);
        Due.answer("12: the gap", x.next(0), GAP);
        Due.answer("12: two are taken still", x.about(0, 0), 2);
        Due.answer("12: the row behind the gap", x.next(0), 3);
        Due.answer("12: done of those before the gap", x.done(0, 3), 2);
        Due.answer("12: done of the one behind it", x.done(0, 4), 1);
    }

    private static void gapAfterGap() {
        ChangeStream x = Streams.withReader(1);
        x.keep(1);
        Streams.flip(x, 0, 3);
        Due.answer("12: a gap", x.next(0), GAP);
        Streams.flip(x, 0, 4);
        Due.answer("12: another", x.next(0), GAP);
        Due.answer("12: missed by both", x.about(0, 2), 2 + 4);
        Due.answer("12: no third", x.next(0), 6);
    }

    private static void noGapAtTheTransactionToCome() {
        ChangeStream x = Streams.withReader(1);
        x.keep(1);
        Due.answer("12: at 1, to come", x.next(0), NONE);
        Streams.flip(x, 0, 1);
        Due.answer("12: 1 is LEAST", x.next(0), 0);
        Due.answer("12: at 2, to come", x.next(0), NONE);
        Streams.flip(x, 0, 1);
        Due.answer("12: 2 is LEAST", x.next(0), 1);
        Due.answer("12: nothing missed", x.about(0, 2), 0);
    }

    /** Promise 12: "WAIT (the reader is at this row then" */
    private static void waitAtTheRowThatIsSeen() {
        ChangeStream x = Streams.withReader(3);
        x.throttle(0, 1);
        Streams.flip(x, 0, 1);
        x.commit();
        Streams.flip(x, 1, 1);
        Streams.flip(x, 2, 1);
        Due.answer("12: row 0", x.next(0), 0);
        x.filter(0, 4, 2);
        Due.answer("12: it waits for row 2", x.next(0), WAIT);
        Due.answer("12: it is in that row's transaction", x.about(0, 1), 4);
        x.done(0, 1);
        Due.answer("12: it takes row 2", x.next(0), 2);
    }

    private static void waitGoesOverRowsForGood() {
        ChangeStream x = Streams.withReader(3);
        x.throttle(0, 1);
        Streams.bringIn(x, 3);
        Due.answer("12: row 0", x.next(0), 0);
        x.filter(0, 4, 2);
        Due.answer("12: it waits for row 2", x.next(0), WAIT);
        x.filter(0, 0, 0);
        x.done(0, 1);
        Streams.sees(x, 0, 2);
    }

    /** Promise 12: "a failing filter is counted each time" */
    private static void waitCountsFailuresEachTime() {
        ChangeStream x = Streams.withReader(2);
        x.throttle(0, 1);
        x.filter(0, 4, 0);
        Streams.bringIn(x, 2);
        Due.answer("12: row 0", x.next(0), 0);
        for (int i = 2; i <= 4; i++) {
            Due.answer("12: it waits", x.next(0), WAIT);
            Due.answer("12: failures", x.about(0, 3), i);
        }
        x.done(0, 1);
        Due.answer("12: row 1", x.next(0), 1);
        Due.answer("12: failures", x.about(0, 3), 5);
    }

    private static void waitTakesNothing() {
        ChangeStream x = Streams.withReader(2);
        x.throttle(0, 1);
        Streams.bringIn(x, 2);
        Streams.takes(x, 0, 0, 1);
        Due.answer("12: it waits", x.next(0), WAIT);
        Due.answer("12: it waits", x.next(0), WAIT);
        Streams.about("12: one is taken", x, 0, 1, 1, 0, 0, 1);
    }

    private static void gapFromARowThatWasWaitedFor() {
        ChangeStream x = Streams.withReader(1);
        x.throttle(0, 1);
        x.keep(2);
        Streams.flip(x, 0, 2);
        Streams.takes(x, 0, 0, 1);
        Due.answer("12: it waits for row 1", x.next(0), WAIT);
        Streams.flip(x, 0, 1);
        Due.answer("12: row 1 is in LEAST", x.next(0), WAIT);
        Streams.flip(x, 0, 1);
        Due.answer("12: row 1 is gone", x.next(0), GAP);
        Due.answer("12: missed", x.about(0, 2), 1);
    }

    private static void nextOfReadersThatThereAre() {
        ChangeStream x = Streams.withReader(1);
        x.reader(1, NONE, NONE);
        Due.badArgument("12: next(-1)", () -> x.next(-1));
        Due.answer("12: next(0)", x.next(0), NONE);
        Due.answer("12: next(1)", x.next(1), NONE);
        Due.badArgument("12: next(2)", () -> x.next(2));
    }

    /** Promise 13: "IllegalArgumentException: also if the number is not 0 .. as many as there are." */
    private static void doneNumberIsZeroToAsManyAsThereAre() {
        ChangeStream x = Streams.withReader(1);
        Due.answer("13: done(0, 0) without transactions", x.done(0, 0), 0);
        Due.badArgument("13: done(0, 1) without transactions", () -> x.done(0, 1));
        Streams.flip(x, 0, 2);
        Streams.takes(x, 0, 0, 2);
        Due.badArgument("13: done(0, -1)", () -> x.done(0, -1));
        Due.badArgument("13: done(0, 3)", () -> x.done(0, 3));
        Due.answer("13: done(0, 0)", x.done(0, 0), 0);
        Due.answer("13: done(0, 2)", x.done(0, 2), 2);
    }

    /** Promise 13: "What a reader has TAKEN of transactions up to a number is DONE: how many rows." */
    private static void doneIsUpToANumber() {
        ChangeStream x = Streams.withReader(3);
        Streams.bringIn(x, 3);
        x.commit();
        Streams.flip(x, 0, 3);
        Streams.takes(x, 0, 0, 6);
        Due.answer("13: done(0, 1)", x.done(0, 1), 3);
        Due.answer("13: done(0, 1) again", x.done(0, 1), 0);
        Due.answer("13: done(0, 2), without rows", x.done(0, 2), 0);
        Due.answer("13: not done", x.about(0, 0), 3);
        Due.answer("13: done(0, 4), two transactions' rows", x.done(0, 4), 2);
        Due.answer("13: not done", x.about(0, 0), 1);
        Due.answer("13: done(0, 3), less than before", x.done(0, 3), 0);
        Due.answer("13: done(0, 5)", x.done(0, 5), 1);
        Due.answer("13: all are done", x.about(0, 0), 0);
    }

    private static void doneOfNothing() {
        ChangeStream x = Streams.withReader(2);
        Streams.bringIn(x, 2);
        Due.answer("13: nothing is taken", x.done(0, 1), 0);
        Due.answer("13: rows not taken are not done", x.next(0), 0);
        Due.answer("13: the rest of a transaction", x.done(0, 1), 1);
        Due.answer("13: comes behind", x.next(0), 1);
        Due.answer("13: and is done for itself", x.done(0, 1), 1);
    }

    private static void doneOfTwenty() {
        ChangeStream x = Streams.withReader(20);
        for (int turn = 0; turn < 2; turn++) {
            Streams.changeAll(x, 20, turn == 0);
            x.commit();
            Streams.takes(x, 0, turn * 20, turn * 20 + 20);
            Due.answer("13: not before their number", x.done(0, turn), 0);
            Due.answer("13: all twenty", x.done(0, turn + 1), 20);
        }
        Due.answer("13: taken in all", x.about(0, 4), 40);
    }

    private static void doneOfRowsThatAreGone() {
        ChangeStream x = Streams.withReader(1);
        Streams.flip(x, 0, 4);
        Streams.takes(x, 0, 0, 4);
        x.keep(2);
        Due.answer("13: they are taken still", x.about(0, 0), 4);
        Due.answer("13: of the first", x.done(0, 1), 1);
        Due.answer("13: of one that is gone and one that is kept", x.done(0, 3), 2);
    }

    private static void doneLeavesThePlace() {
        ChangeStream x = Streams.withReader(3);
        Streams.bringIn(x, 3);
        Streams.takes(x, 0, 0, 2);
        x.done(0, 1);
        Due.answer("13: its transaction", x.about(0, 1), 1);
        Due.answer("13: taken in all", x.about(0, 4), 2);
        Streams.sees(x, 0, 2);
    }

    private static void doneOfReadersThatThereAre() {
        ChangeStream x = Streams.withReader(1);
        x.reader(1, NONE, NONE);
        Streams.flip(x, 0, 1);
        Streams.takes(x, 0, 0, 1);
        Streams.takes(x, 1, 0, 1);
        Due.badArgument("13: done(-1, 0)", () -> x.done(-1, 0));
        Due.badArgument("13: done(2, 0)", () -> x.done(2, 0));
        Due.answer("13: done(1, 1)", x.done(1, 1), 1);
        Due.answer("13: another reader's are not", x.about(0, 0), 1);
    }

    /** Promise 14: "(if there is one)" */
    private static void resumeWithNothingTaken() {
        ChangeStream x = Streams.withReader(2);
        Due.answer("14: without transactions", x.resume(0), 0);
        Streams.bringIn(x, 2);
        x.filter(0, 3, 0);
        Due.answer("14: it goes over rows", x.next(0), NONE);
        Due.answer("14: none are taken", x.resume(0), 0);
        x.filter(0, 0, 0);
        Due.answer("14: its place stays", x.about(0, 1), 2);
        Due.answer("14: none come again", x.next(0), NONE);
    }

    /** Promise 14: "A reader begins again at the first row that it has TAKEN and is not DONE" */
    private static void resumeAtTheFirstTaken() {
        ChangeStream x = Streams.withReader(2);
        Streams.bringIn(x, 2);
        Streams.flip(x, 0, 2);
        Streams.takes(x, 0, 0, 3);
        Due.answer("14: how many it had", x.resume(0), 3);
        Streams.about("14: none are taken then", x, 0, 0, 1, 0, 0, 3);
        Due.answer("14: resume again", x.resume(0), 0);
        Streams.sees(x, 0, 0, 1, 2, 3);
    }

    private static void resumeAtTheFirstNotDone() {
        ChangeStream x = Streams.withReader(2);
        Streams.bringIn(x, 2);
        Streams.flip(x, 0, 2);
        Streams.takes(x, 0, 0, 4);
        x.done(0, 2);
        Due.answer("14: how many it had", x.resume(0), 1);
        Due.answer("14: its transaction", x.about(0, 1), 3);
        Streams.sees(x, 0, 3);
    }

    private static void resumeAtARowInTheMiddle() {
        ChangeStream x = Streams.withReader(4);
        Streams.bringIn(x, 4);
        Streams.takes(x, 0, 0, 2);
        x.done(0, 1);
        Streams.takes(x, 0, 2, 4);
        Due.answer("14: how many it had", x.resume(0), 2);
        Streams.sees(x, 0, 2, 3);
    }

    private static void resumeWithAllDone() {
        ChangeStream x = Streams.withReader(3);
        Streams.bringIn(x, 3);
        Streams.takes(x, 0, 0, 2);
        x.done(0, 1);
        Due.answer("14: it had none", x.resume(0), 0);
        Streams.sees(x, 0, 2);
    }

    private static void resumeWhileWaiting() {
        ChangeStream x = Streams.withReader(1);
        x.throttle(0, 2);
        Streams.flip(x, 0, 3);
        Streams.takes(x, 0, 0, 2);
        Due.answer("14: it waits", x.next(0), WAIT);
        Due.answer("14: how many it had", x.resume(0), 2);
        Streams.takes(x, 0, 0, 2);
        Due.answer("14: it waits again", x.next(0), WAIT);
        Due.answer("14: at the same row", x.about(0, 1), 3);
    }

    private static void resumeBehindNone() {
        ChangeStream x = Streams.withReader(2);
        Streams.bringIn(x, 2);
        Streams.sees(x, 0, 0, 1);
        Due.answer("14: how many it had", x.resume(0), 2);
        Due.answer("14: back from the one to come", x.about(0, 1), 1);
        Streams.sees(x, 0, 0, 1);
    }

    private static void resumeAtARowThatIsGone() {
        ChangeStream x = Streams.withReader(1);
        Streams.flip(x, 0, 4);
        Streams.takes(x, 0, 0, 4);
        x.keep(2);
        Due.answer("14: how many it had", x.resume(0), 4);
        Due.answer("14: in the transaction that is gone", x.about(0, 1), 1);
        Due.answer("14: too late", x.next(0), GAP);
        Due.answer("14: missed", x.about(0, 2), 2);
        Streams.sees(x, 0, 2, 3);
    }

    private static void resumeSeesByWhatCountsNow() {
        ChangeStream x = Streams.withReader(4);
        Streams.bringIn(x, 4);
        Streams.sees(x, 0, 0, 1, 2, 3);
        x.filter(0, 4, 3);
        x.right(0, 0, false);
        Due.answer("14: how many it had", x.resume(0), 4);
        Streams.sees(x, 0, 0, 3);
    }

    private static void resumeOfReadersThatThereAre() {
        ChangeStream x = Streams.withReader(1);
        x.reader(1, NONE, NONE);
        Streams.flip(x, 0, 1);
        Streams.takes(x, 0, 0, 1);
        Streams.takes(x, 1, 0, 1);
        Due.badArgument("14: resume(-1)", () -> x.resume(-1));
        Due.badArgument("14: resume(2)", () -> x.resume(2));
        Due.answer("14: resume(1)", x.resume(1), 1);
        Due.answer("14: another reader's stay taken", x.about(0, 0), 1);
    }

    /** Promise 16: what is 0 .. 4. */
    private static void aboutIsFiveThings() {
        ChangeStream x = Streams.withFacts(2);
        x.commit();
        x.reader(2, NONE, NONE);
        Streams.about("16: at first", x, 0, 0, 2, 0, 0, 0);
        x.filter(0, 4, 0);
        Streams.bringIn(x, 2);
        Streams.takes(x, 0, 0, 2);
        x.resume(0);
        Streams.takes(x, 0, 0, 1);
        x.keep(1);
        Streams.commitEmpty(x, 2);
        Due.answer("16: a gap", x.next(0), GAP);
        Streams.about("16: then", x, 0, 1, 4, 2, 3, 3);
        Due.badArgument("16: about(0, -1)", () -> x.about(0, -1));
        Due.badArgument("16: about(0, 5)", () -> x.about(0, 5));
    }

    /** Promise 16: "the transaction it is in, behind its last row still that, till next() goes on (1)" */
    private static void aboutTheTransactionItIsIn() {
        ChangeStream x = Streams.withReader(2);
        Streams.bringIn(x, 2);
        Due.answer("16: before its first row", x.about(0, 1), 1);
        Streams.takes(x, 0, 0, 2);
        Due.answer("16: behind its last row", x.about(0, 1), 1);
        Streams.flip(x, 0, 2);
        Due.answer("16: with more to come", x.about(0, 1), 1);
        x.done(0, 1);
        Due.answer("16: with all done", x.about(0, 1), 1);
        Streams.takes(x, 0, 2, 3);
        Due.answer("16: when next() went on", x.about(0, 1), 2);
        x.keep(1);
        Due.answer("16: when it is gone", x.about(0, 1), 2);
    }

    /** Promise 16: "each time as many as LEAST was more than its own (2)" */
    private static void aboutWhatItMissed() {
        ChangeStream x = Streams.withReader(1);
        Streams.commitEmpty(x, 11);
        Due.answer("16: none missed before next()", x.about(0, 2), 0);
        Due.answer("16: a gap", x.next(0), GAP);
        Due.answer("16: one missed", x.about(0, 2), 1);
        Due.answer("16: none to see", x.next(0), NONE);
        Streams.commitEmpty(x, 12);
        Due.answer("16: at 12, LEAST is 14", x.next(0), GAP);
        Due.answer("16: two more missed", x.about(0, 2), 3);
        x.keep(1);
        Due.answer("16: at 14, LEAST is 23", x.next(0), GAP);
        Due.answer("16: nine more missed", x.about(0, 2), 12);
    }

    /** Promise 16: "rows that it took in all (4)" */
    private static void aboutRowsTakenAgain() {
        ChangeStream x = Streams.withReader(2);
        Streams.bringIn(x, 2);
        Streams.sees(x, 0, 0, 1);
        Due.answer("16: taken", x.about(0, 4), 2);
        x.done(0, 1);
        Due.answer("16: done ones count", x.about(0, 4), 2);
        Streams.flip(x, 0, 1);
        Streams.takes(x, 0, 2, 3);
        x.resume(0);
        Due.answer("16: given back ones count", x.about(0, 4), 3);
        Streams.takes(x, 0, 2, 3);
        Due.answer("16: taken again they count again", x.about(0, 4), 4);
    }

    private static void aboutReadersThatThereAre() {
        ChangeStream x = Streams.withReader(1);
        x.reader(1, NONE, NONE);
        for (int what = 0; what <= 4; what++) {
            int asked = what;
            Due.badArgument("16: about(-1, " + what + ")", () -> x.about(-1, asked));
            Due.badArgument("16: about(2, " + what + ")", () -> x.about(2, asked));
            Due.answer("16: about(1, " + what + ")", x.about(1, what), what == 1 ? 1 : 0);
        }
    }
}
