/** Readers and what they see, promises 8 to 11, and the terms READER, SEES, FILTER and THROTTLE. */
public final class ReaderTest {
    private static final int NONE = Streams.NONE;
    private static final int WAIT = Streams.WAIT;

    public static void main(String[] args) {
        fromOnANewObject();
        fromIsOneToOneMoreThanThereAre();
        readerOfATransactionToCome();
        readerBeginsAtTheFirstRow();
        readerOfATransactionWithoutRows();
        readerOfATransactionThatIsGone();
        graphAskedFor();
        propertyAskedFor();
        graphAndPropertyAskedFor();
        sixReaders();
        readersAreAtTheirOwnPlaces();
        filterKindIsZeroToFour();
        filterNumberMayBeAny();
        filterOfAll();
        filterOfThoseThatComeIn();
        filterOfThoseThatGo();
        filterOfFactsBelow();
        filterOfFactsThatAreDivided();
        filterDividesByZero();
        filterFailsForSeenRowsAlone();
        filterIsAnotherOne();
        throttleIsFiveAtFirst();
        throttleIsOneToTwenty();
        throttleOfOne();
        throttleOfTwenty();
        throttleBelowWhatIsTaken();
        rightIsThereAtFirst();
        rightCountsFromTheNextTransaction();
        latestRightThatCountsThere();
        rightOfAReaderThatComesLater();
        rightOfTheFirstAndTheLastFact();
        rightsOfOneReaderAlone();
        fortyRights();
        Due.end();
    }

    /** Promise 8: "IllegalArgumentException: also if from is not 1 .. 1 more than there are" */
    private static void fromOnANewObject() {
        ChangeStream x = new ChangeStream();
        Due.badArgument("8: reader(0, NONE, NONE)", () -> x.reader(0, NONE, NONE));
        Due.badArgument("8: reader(2, NONE, NONE)", () -> x.reader(2, NONE, NONE));
        Due.answer("8: reader(1, NONE, NONE)", x.reader(1, NONE, NONE), 0);
    }

    private static void fromIsOneToOneMoreThanThereAre() {
        ChangeStream x = Streams.withFacts(1);
        Streams.flip(x, 0, 3);
        Due.badArgument("8: reader(0, NONE, NONE)", () -> x.reader(0, NONE, NONE));
        Due.badArgument("8: reader(5, NONE, NONE)", () -> x.reader(5, NONE, NONE));
        Due.answer("8: reader(1, NONE, NONE)", x.reader(1, NONE, NONE), 0);
        Due.answer("8: reader(3, NONE, NONE)", x.reader(3, NONE, NONE), 1);
        Due.answer("8: reader(4, NONE, NONE)", x.reader(4, NONE, NONE), 2);
        Due.answer("8: place of the first", x.about(0, 1), 1);
        Due.answer("8: place of the second", x.about(1, 1), 3);
        Due.answer("8: place of the third", x.about(2, 1), 4);
    }

    /** Promise 8: "at the first row of transaction from (which may be to come)" */
    private static void readerOfATransactionToCome() {
        ChangeStream x = Streams.withFacts(2);
        Streams.flip(x, 0, 2);
        x.change(1, true);
        x.reader(3, NONE, NONE);
        Due.answer("8: an open transaction has no rows yet", x.next(0), NONE);
        Due.answer("8: its place stays", x.about(0, 1), 3);
        x.commit();
        Due.answer("8: its first row", x.next(0), 2);
    }

    private static void readerBeginsAtTheFirstRow() {
        ChangeStream x = Streams.withFacts(3);
        Streams.bringIn(x, 3);
        x.change(2, false);
        x.change(0, false);
        x.commit();
        Streams.sees(x, x.reader(2, NONE, NONE), 3, 4);
        Streams.sees(x, x.reader(1, NONE, NONE), 0, 1, 2, 3, 4);
    }

    private static void readerOfATransactionWithoutRows() {
        ChangeStream x = Streams.withFacts(1);
        Streams.flip(x, 0, 1);
        x.commit();
        x.reader(2, NONE, NONE);
        Due.answer("8: its place", x.about(0, 1), 2);
        Streams.flip(x, 0, 1);
        Due.answer("8: the first row behind it", x.next(0), 1);
        Due.answer("8: its place then", x.about(0, 1), 3);
    }

    private static void readerOfATransactionThatIsGone() {
        ChangeStream x = Streams.withFacts(1);
        Streams.flip(x, 0, 5);
        x.keep(2);
        Due.answer("8: a reader of the last that is gone", x.reader(3, NONE, NONE), 0);
        Due.answer("8: its place", x.about(0, 1), 3);
        Due.answer("8: it is too late", x.next(0), Streams.GAP);
        Due.answer("8: a reader of the first that is kept", x.reader(4, NONE, NONE), 1);
        Due.answer("8: it is not", x.next(1), 3);
    }

    /** Promise 8: "asking for a graph .. (or NONE)"; terms: "(NONE: any)" */
    private static void graphAskedFor() {
        ChangeStream x = Streams.withFacts(9);
        Streams.bringIn(x, 9);
        Due.badArgument("8: graph -2", () -> x.reader(1, -2, NONE));
        Due.badArgument("8: graph 8", () -> x.reader(1, 8, NONE));
        Streams.sees(x, x.reader(1, 0, NONE), 0, 8);
        Streams.sees(x, x.reader(1, 7, NONE), 7);
        x.reader(1, NONE, NONE);
        x.throttle(2, 20);
        Streams.sees(x, 2, 0, 1, 2, 3, 4, 5, 6, 7, 8);
    }

    private static void propertyAskedFor() {
        ChangeStream x = Streams.withFacts(17);
        Streams.bringIn(x, 17);
        Due.badArgument("8: property -2", () -> x.reader(1, NONE, -2));
        Due.badArgument("8: property 16", () -> x.reader(1, NONE, 16));
        Streams.sees(x, x.reader(1, NONE, 0), 0, 16);
        Streams.sees(x, x.reader(1, NONE, 15), 15);
    }

    private static void graphAndPropertyAskedFor() {
        ChangeStream x = new ChangeStream();
        x.fact(0, 0);
        x.fact(0, 15);
        x.fact(7, 0);
        x.fact(7, 15);
        Streams.bringIn(x, 4);
        Streams.sees(x, x.reader(1, 0, 0), 0);
        Streams.sees(x, x.reader(1, 0, 15), 1);
        Streams.sees(x, x.reader(1, 7, 0), 2);
        Streams.sees(x, x.reader(1, 7, 15), 3);
        Streams.sees(x, x.reader(1, 3, 0));
        Streams.sees(x, x.reader(1, 0, 3));
    }

    /** Promise 8: "IllegalStateException: there are 6." */
    private static void sixReaders() {
        ChangeStream x = Streams.withFacts(1);
        for (int number = 0; number < 6; number++) {
            Due.badArgument("8: about(" + number + ", 0)", () -> x.about(x.told(4), 0));
            Due.answer("8: reader " + number, x.reader(1, NONE, NONE), number);
        }
        Due.badState("8: a seventh", () -> x.reader(1, NONE, NONE));
        Due.badArgument("8: from that may not be", () -> x.reader(0, NONE, NONE));
        Due.badArgument("8: a graph that may not be", () -> x.reader(1, 8, NONE));
        Due.badArgument("8: a property that may not be", () -> x.reader(1, NONE, 16));
        Due.answer("8: told", x.told(4), 6);
        Due.answer("8: the sixth is there", x.next(5), NONE);
        Due.badArgument("8: the seventh is not", () -> x.next(6));
    }

    private static void readersAreAtTheirOwnPlaces() {
        ChangeStream x = Streams.withFacts(2);
        for (int number = 0; number < 6; number++) {
            x.reader(1, NONE, NONE);
        }
        Streams.bringIn(x, 2);
        Streams.sees(x, 0, 0, 1);
        Due.answer("8: the sixth", x.next(5), 0);
        Due.answer("8: what the first has taken", x.about(0, 0), 2);
        Due.answer("8: what the sixth has taken", x.about(5, 0), 1);
        Due.answer("8: what the second has taken", x.about(1, 0), 0);
    }

    /** Promise 9: "IllegalArgumentException: also if kind is not 0 .. 4." */
    private static void filterKindIsZeroToFour() {
        ChangeStream x = Streams.withReader(2);
        x.filter(0, 2, 0);
        Streams.bringIn(x, 2);
        Due.badArgument("9: kind -1", () -> Calls.filter(x, 0, -1, 0));
        Due.badArgument("9: kind 5", () -> Calls.filter(x, 0, 5, 0));
        Streams.sees(x, 0);
        for (int kind = 0; kind <= 4; kind++) {
            Due.answer("9: kind " + kind, Calls.filter(x, 0, kind, 1), 0);
        }
    }

    private static void filterNumberMayBeAny() {
        int[] numbers = {Integer.MIN_VALUE, -101, -1, 0, 1, 99, 100, 101, Integer.MAX_VALUE};
        ChangeStream x = Streams.withReader(1);
        for (int number : numbers) {
            for (int kind = 0; kind <= 4; kind++) {
                Due.answer("9: number " + number, Calls.filter(x, 0, kind, number), 0);
            }
        }
    }

    /** Terms: "kind 0 all" */
    private static void filterOfAll() {
        seenThrough(0, 0, 0, 1, 2, 3, 4, 5, 6);
        seenThrough(0, -9, 0, 1, 2, 3, 4, 5, 6);
    }

    /** Terms: "1 those that come in" */
    private static void filterOfThoseThatComeIn() {
        seenThrough(1, 0, 0, 1, 2, 3, 4);
        seenThrough(1, 2, 0, 1, 2, 3, 4);
    }

    /** Terms: "2 those that go" */
    private static void filterOfThoseThatGo() {
        seenThrough(2, 0, 5, 6);
        seenThrough(2, 2, 5, 6);
    }

    /** Terms: "3 facts below its number" */
    private static void filterOfFactsBelow() {
        seenThrough(3, Integer.MIN_VALUE);
        seenThrough(3, -1);
        seenThrough(3, 0);
        seenThrough(3, 1, 0);
        seenThrough(3, 2, 0, 1, 5);
        seenThrough(3, 4, 0, 1, 2, 3, 5);
        seenThrough(3, 5, 0, 1, 2, 3, 4, 5, 6);
        seenThrough(3, Integer.MAX_VALUE, 0, 1, 2, 3, 4, 5, 6);
    }

    /** Terms: "4 facts that its number divides" */
    private static void filterOfFactsThatAreDivided() {
        seenThrough(4, 1, 0, 1, 2, 3, 4, 5, 6);
        seenThrough(4, -1, 0, 1, 2, 3, 4, 5, 6);
        seenThrough(4, 2, 0, 2, 4, 6);
        seenThrough(4, -2, 0, 2, 4, 6);
        seenThrough(4, 4, 0, 4, 6);
        seenThrough(4, 5, 0);
        seenThrough(4, Integer.MAX_VALUE, 0);
        seenThrough(4, Integer.MIN_VALUE, 0);
    }

    /** Terms: "by 0 that fails: then the row is seen, and the failure counted" */
    private static void filterDividesByZero() {
        ChangeStream x = Streams.withReader(3);
        x.filter(0, 4, 0);
        Streams.bringIn(x, 3);
        Due.answer("9: no failure before a row", x.about(0, 3), 0);
        Due.answer("9: fact 0 is seen", x.next(0), 0);
        Due.answer("9: one failure", x.about(0, 3), 1);
        Streams.sees(x, 0, 1, 2);
        Due.answer("9: a failure for each row, none for NONE", x.about(0, 3), 3);
        Streams.sees(x, 0);
        Due.answer("9: none without rows", x.about(0, 3), 3);
    }

    private static void filterFailsForSeenRowsAlone() {
        ChangeStream x = new ChangeStream();
        x.fact(0, 1);
        x.fact(1, 0);
        x.fact(1, 1);
        x.fact(1, 1);
        x.reader(1, 1, 1);
        x.filter(0, 4, 0);
        x.right(0, 2, false);
        Streams.bringIn(x, 4);
        Streams.sees(x, 0, 3);
        Due.answer("9: not for another graph, property or without the right", x.about(0, 3), 1);
    }

    /** Promise 9: "A reader's FILTER is another one." */
    private static void filterIsAnotherOne() {
        ChangeStream x = Streams.withReader(4);
        Streams.bringIn(x, 4);
        x.filter(0, 4, 0);
        Due.answer("9: a failing one", x.next(0), 0);
        x.filter(0, 3, 0);
        x.filter(0, 4, 3);
        Due.answer("9: the latest alone counts", x.next(0), 3);
        Due.answer("9: failures of an earlier one stay", x.about(0, 3), 1);
        x.filter(0, 0, 0);
        Due.answer("9: rows it went over do not come again", x.next(0), NONE);
        Streams.sees(x, x.reader(1, NONE, NONE), 0, 1, 2, 3);
    }

    /** Terms: "as many rows as its THROTTLE tells (5 at first)" */
    private static void throttleIsFiveAtFirst() {
        ChangeStream x = Streams.withFacts(6);
        x.reader(1, NONE, NONE);
        Streams.bringIn(x, 6);
        Streams.takes(x, 0, 0, 5);
        Due.answer("10: the sixth", x.next(0), WAIT);
        Due.answer("10: what it was", x.throttle(0, 6), 5);
        Due.answer("10: the sixth", x.next(0), 5);
    }

    /** Promise 10: "IllegalArgumentException: also if rows is not 1 .. 20." */
    private static void throttleIsOneToTwenty() {
        ChangeStream x = Streams.withFacts(1);
        x.reader(1, NONE, NONE);
        Due.badArgument("10: throttle(0, 0)", () -> x.throttle(0, 0));
        Due.badArgument("10: throttle(0, 21)", () -> x.throttle(0, 21));
        Due.answer("10: throttle(0, 1)", x.throttle(0, 1), 5);
        Due.badArgument("10: throttle(0, 21)", () -> x.throttle(0, 21));
        Due.answer("10: throttle(0, 20)", x.throttle(0, 20), 1);
        Due.badArgument("10: throttle(0, 0)", () -> x.throttle(0, 0));
        Due.answer("10: throttle(0, 20) again", x.throttle(0, 20), 20);
    }

    private static void throttleOfOne() {
        ChangeStream x = Streams.withReader(2);
        x.throttle(0, 1);
        Streams.bringIn(x, 2);
        Due.answer("10: one", x.next(0), 0);
        Due.answer("10: another", x.next(0), WAIT);
        x.resume(0);
        Due.answer("10: one again", x.next(0), 0);
        Due.answer("10: another", x.next(0), WAIT);
        x.done(0, 1);
        Due.answer("10: the other", x.next(0), 1);
    }

    private static void throttleOfTwenty() {
        ChangeStream x = Streams.withReader(20);
        Streams.bringIn(x, 20);
        x.change(0, false);
        x.commit();
        Streams.takes(x, 0, 0, 20);
        Due.answer("10: twenty are taken", x.about(0, 0), 20);
        Due.answer("10: the next one", x.next(0), WAIT);
        Due.answer("10: done", x.done(0, 1), 20);
        Due.answer("10: the next one", x.next(0), 20);
    }

    private static void throttleBelowWhatIsTaken() {
        ChangeStream x = Streams.withReader(6);
        Streams.bringIn(x, 3);
        Streams.flip(x, 3, 1);
        Streams.flip(x, 4, 1);
        Streams.flip(x, 5, 1);
        Streams.takes(x, 0, 0, 4);
        x.throttle(0, 1);
        Due.answer("10: four are taken still", x.about(0, 0), 4);
        Due.answer("10: more than it may have", x.next(0), WAIT);
        x.done(0, 1);
        Due.answer("10: as many as it may have", x.next(0), WAIT);
        x.throttle(0, 2);
        Due.answer("10: one fewer than it may have", x.next(0), 4);
        Due.answer("10: as many as it may have", x.next(0), WAIT);
    }

    /** Terms: "if it has the right to the fact in that transaction (it does, at first" */
    private static void rightIsThereAtFirst() {
        ChangeStream x = Streams.withReader(2);
        x.right(0, 0, true);
        Streams.bringIn(x, 2);
        Streams.sees(x, 0, 0, 1);
    }

    /** Terms: "a right that is given or taken counts from the next transaction on" */
    private static void rightCountsFromTheNextTransaction() {
        ChangeStream x = Streams.withReader(1);
        Streams.flip(x, 0, 2);
        x.right(0, 0, false);
        Streams.flip(x, 0, 2);
        x.change(0, true);
        x.right(0, 0, true);
        x.commit();
        Streams.flip(x, 0, 1);
        x.change(0, true);
        x.right(0, 0, false);
        x.commit();
        Streams.sees(x, 0, 0, 1, 4, 5);
        x.resume(0);
        Streams.sees(x, 0, 0, 1, 4, 5);
    }

    /** Terms: "the latest one that counts there" */
    private static void latestRightThatCountsThere() {
        ChangeStream x = Streams.withReader(1);
        x.right(0, 0, false);
        x.right(0, 0, true);
        Streams.flip(x, 0, 1);
        x.right(0, 0, true);
        x.right(0, 0, false);
        Streams.flip(x, 0, 1);
        x.abort();
        x.right(0, 0, true);
        x.abort();
        Streams.flip(x, 0, 1);
        x.right(0, 0, false);
        Streams.sees(x, 0, 0, 2);
    }

    private static void rightOfAReaderThatComesLater() {
        ChangeStream x = Streams.withFacts(1);
        Streams.flip(x, 0, 2);
        x.reader(1, NONE, NONE);
        x.right(0, 0, false);
        Streams.flip(x, 0, 1);
        Streams.sees(x, 0, 0, 1);
    }

    /** Promise 11: "IllegalArgumentException": there is no such fact. */
    private static void rightOfTheFirstAndTheLastFact() {
        ChangeStream x = Streams.withReader(3);
        Due.badArgument("11: fact -1", () -> Calls.right(x, 0, -1, false));
        Due.badArgument("11: fact 3", () -> Calls.right(x, 0, 3, false));
        Due.answer("11: fact 0", Calls.right(x, 0, 0, false), 0);
        Due.answer("11: fact 2", Calls.right(x, 0, 2, false), 0);
        x.fact(0, 0);
        Due.answer("11: fact 3 when it is there", Calls.right(x, 0, 3, false), 0);
        Streams.bringIn(x, 4);
        Streams.sees(x, 0, 1);
    }

    private static void rightsOfOneReaderAlone() {
        ChangeStream x = Streams.withReader(2);
        x.reader(1, NONE, NONE);
        x.right(1, 0, false);
        x.right(0, 1, false);
        Streams.bringIn(x, 2);
        Streams.sees(x, 0, 0);
        Streams.sees(x, 1, 1);
    }

    /** Promise 11: "IllegalStateException: its rights were changed 40 times." */
    private static void fortyRights() {
        ChangeStream x = Streams.withReader(2);
        x.reader(1, NONE, NONE);
        for (int i = 1; i <= 40; i++) {
            Due.answer("11: right " + i, Calls.right(x, 0, i == 40 ? 1 : 0, i == 39), 0);
            if (i == 20) {
                x.commit();
            }
        }
        Due.badState("11: right 41", () -> Calls.right(x, 0, 0, false));
        Due.badState("11: right 41, of the other fact", () -> Calls.right(x, 0, 1, true));
        Due.badArgument("11: of a fact that is not there", () -> Calls.right(x, 0, 2, false));
        Due.badArgument("11: of a reader that is not there", () -> Calls.right(x, 2, 0, false));
        Due.answer("11: another reader's first", Calls.right(x, 1, 0, false), 0);
        Streams.bringIn(x, 2);
        Due.badState("11: nor in a later transaction", () -> Calls.right(x, 0, 1, true));
        Streams.sees(x, 0, 0);
        Streams.sees(x, 1, 1);
    }

    /** What a reader with this filter sees of five facts that come in, of which 1 and 4 go again: rows 5 and 6. */
    private static void seenThrough(int kind, int number, int... rows) {
        ChangeStream x = Streams.withReader(5);
        Streams.bringIn(x, 5);
        x.change(1, false);
        x.change(4, false);
        x.commit();
        x.filter(0, kind, number);
        Streams.sees(x, 0, rows);
        Due.answer("9: no failures", x.about(0, 3), 0);
    }
}
