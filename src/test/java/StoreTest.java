/** The store, promises 1 to 6, and the terms FACTS, TRANSACTION, COMMITTED and ROWS: a test for each sentence. */
public final class StoreTest {
    public static void main(String[] args) {
        newObjectIsEmpty();
        newObjectHasNothingToName();
        newObjectBeginsItsNumbers();
        objectsShareNothing();
        factsAreNumbered();
        graphIsZeroToSeven();
        propertyIsZeroToFifteen();
        oneHundredFacts();
        factToChange();
        lastOfManyFacts();
        factsAddedBesideOpenChanges();
        twentyChanges();
        twentyChangesOfOneFact();
        changesInEachTransaction();
        commitGivesTheNextNumber();
        commitOpensOneWithoutChanges();
        transactionWithoutRows();
        whatIsInDoesNotComeIn();
        whatIsOutDoesNotGo();
        lastChangeOfOneFactCounts();
        goingRowsComeFirst();
        rowsOfFirstAndLastFact();
        rowsAreNumberedOverAll();
        abortWithoutChanges();
        abortDropsTheChanges();
        abortOfTwenty();
        abortBesideOneHundredFacts();
        abortTakesNoNumber();
        noFactIsInAtFirst();
        containsLooksAtCommitted();
        containsOfFirstAndLast();
        Due.end();
    }

    /** Promise 1: "No facts, transactions, readers." */
    private static void newObjectIsEmpty() {
        Streams.told("1", new ChangeStream(), 0, 0, 1, 0, 0, 0);
    }

    private static void newObjectHasNothingToName() {
        ChangeStream x = new ChangeStream();
        Due.badArgument("1: change(0, true)", () -> x.change(0, true));
        Due.badArgument("1: contains(0)", () -> x.contains(0) ? 1 : 0);
        Due.badArgument("1: reader(2, NONE, NONE)", () -> x.reader(2, Streams.NONE, Streams.NONE));
        Due.badArgument("1: filter(0, 0, 0)", () -> Calls.filter(x, 0, 0, 0));
        Due.badArgument("1: throttle(0, 1)", () -> x.throttle(0, 1));
        Due.badArgument("1: right(0, 0, true)", () -> Calls.right(x, 0, 0, true));
        Due.badArgument("1: next(0)", () -> x.next(0));
        Due.badArgument("1: done(0, 0)", () -> x.done(0, 0));
        Due.badArgument("1: resume(0)", () -> x.resume(0));
        Due.badArgument("1: row(0, 0)", () -> x.row(0, 0));
        Due.badArgument("1: about(0, 0)", () -> x.about(0, 0));
        Streams.told("1: behind refused calls", x, 0, 0, 1, 0, 0, 0);
    }

    private static void newObjectBeginsItsNumbers() {
        ChangeStream x = new ChangeStream();
        Due.answer("1: abort", x.abort(), 0);
        Due.answer("1: keep", x.keep(10), 10);
        Due.answer("1: the first reader", x.reader(1, Streams.NONE, Streams.NONE), 0);
        Due.answer("1: it sees nothing", x.next(0), Streams.NONE);
        Due.answer("1: the first fact", x.fact(0, 0), 0);
        Due.answer("1: the first change", x.change(0, true), 1);
        Due.answer("1: the first transaction", x.commit(), 1);
        Due.answer("1: the first row", x.next(0), 0);
    }

    private static void objectsShareNothing() {
        ChangeStream x = Streams.withReader(2);
        ChangeStream other = Streams.withReader(1);
        Streams.bringIn(other, 1);
        other.change(0, false);
        other.keep(1);
        Streams.told("1: the other", other, 1, 1, 1, 1, 1, 1);
        Streams.told("1: this one", x, 2, 0, 1, 0, 1, 0);
        Due.answer("1: this one's keep", x.keep(3), 10);
    }

    /** Promise 2: "A new fact: its number." */
    private static void factsAreNumbered() {
        ChangeStream x = new ChangeStream();
        Due.answer("2: the first", x.fact(3, 4), 0);
        Due.answer("2: of another graph", x.fact(4, 4), 1);
        Due.answer("2: of another property", x.fact(3, 5), 2);
        Due.answer("2: of a graph and a property that were there", x.fact(3, 4), 3);
        Due.answer("2: told", x.told(0), 4);
    }

    /** Terms: "each of a graph 0 .. 7" */
    private static void graphIsZeroToSeven() {
        ChangeStream x = new ChangeStream();
        Due.answer("2: fact(0, 3)", x.fact(0, 3), 0);
        Due.answer("2: fact(7, 3)", x.fact(7, 3), 1);
        Due.badArgument("2: fact(-1, 3)", () -> x.fact(-1, 3));
        Due.badArgument("2: fact(8, 3)", () -> x.fact(8, 3));
        Streams.bringIn(x, 2);
        Due.answer("2: graph of the first", x.row(0, 3), 0);
        Due.answer("2: graph of the second", x.row(1, 3), 7);
        Due.answer("2: the next number", x.fact(3, 3), 2);
    }

    /** Terms: "and a property 0 .. 15" */
    private static void propertyIsZeroToFifteen() {
        ChangeStream x = new ChangeStream();
        Due.answer("2: fact(3, 0)", x.fact(3, 0), 0);
        Due.answer("2: fact(3, 15)", x.fact(3, 15), 1);
        Due.badArgument("2: fact(3, -1)", () -> x.fact(3, -1));
        Due.badArgument("2: fact(3, 16)", () -> x.fact(3, 16));
        Streams.bringIn(x, 2);
        Due.answer("2: property of the first", x.row(0, 4), 0);
        Due.answer("2: property of the second", x.row(1, 4), 15);
        Due.answer("2: the next number", x.fact(3, 3), 2);
    }

    /** Promise 2: "IllegalStateException: there are 100." */
    private static void oneHundredFacts() {
        ChangeStream x = Streams.withFacts(99);
        Due.answer("2: the hundredth", x.fact(7, 15), 99);
        Due.badState("2: one more", () -> x.fact(0, 0));
        Due.badState("2: and again", () -> x.fact(7, 15));
        Due.badArgument("2: a graph that may not be", () -> x.fact(8, 0));
        Due.badArgument("2: a property that may not be", () -> x.fact(0, 16));
        Due.answer("2: told", x.told(0), 100);
        Due.badArgument("2: there is no fact 100", () -> x.contains(100) ? 1 : 0);
    }

    /** Promise 3: "IllegalArgumentException": there is no such fact. */
    private static void factToChange() {
        ChangeStream x = Streams.withFacts(2);
        Due.badArgument("3: change(-1, true)", () -> x.change(-1, true));
        Due.badArgument("3: change(2, true)", () -> x.change(2, true));
        Due.answer("3: change(0, true)", x.change(0, true), 1);
        Due.answer("3: change(1, true)", x.change(1, true), 2);
        x.fact(0, 0);
        Due.answer("3: change(2, true) of the new fact", x.change(2, true), 3);
        Due.badArgument("3: change(3, true)", () -> x.change(3, true));
        Due.answer("3: told", x.told(5), 3);
    }

    private static void lastOfManyFacts() {
        ChangeStream x = Streams.withFacts(100);
        Due.answer("3: change(99, true)", x.change(99, true), 1);
        Due.badArgument("3: change(100, true)", () -> x.change(100, true));
        x.commit();
        Due.answer("3: fact 99 is in", x.contains(99), true);
        Due.answer("3: fact 98 is not", x.contains(98), false);
    }

    private static void factsAddedBesideOpenChanges() {
        ChangeStream x = Streams.withFacts(1);
        x.change(0, true);
        x.fact(1, 1);
        Due.answer("3: the changes stay", x.told(5), 1);
        x.commit();
        Due.answer("3: the new fact has no row", x.told(3), 1);
        Due.answer("3: the new fact is not in", x.contains(1), false);
    }

    /** Terms: "A TRANSACTION collects changes (20 at most)"; promise 3: "IllegalStateException: it has 20." */
    private static void twentyChanges() {
        ChangeStream x = Streams.withFacts(21);
        for (int i = 0; i < 20; i++) {
            Due.answer("3: change " + (i + 1), x.change(i, true), i + 1);
        }
        Due.badState("3: change 21", () -> x.change(20, true));
        Due.badState("3: change 21, of a changed fact", () -> x.change(0, false));
        Due.badArgument("3: of a fact that is not there", () -> x.change(21, true));
        Due.badArgument("3: of a fact that is not there", () -> x.change(-1, true));
        Due.answer("3: told", x.told(5), 20);
        x.commit();
        Due.answer("3: a row for each", x.told(3), 20);
        Due.answer("3: the refused change of 20", x.contains(20), false);
        Due.answer("3: the refused change of 0", x.contains(0), true);
    }

    private static void twentyChangesOfOneFact() {
        ChangeStream x = Streams.withFacts(1);
        for (int i = 1; i <= 20; i++) {
            Due.answer("3: change " + i, x.change(0, i < 20), i);
        }
        Due.badState("3: change 21", () -> x.change(0, true));
        x.commit();
        Due.answer("3: the twentieth counts: no row", x.told(3), 0);
        Due.answer("3: the twentieth counts: not in", x.contains(0), false);
    }

    private static void changesInEachTransaction() {
        ChangeStream x = Streams.withFacts(20);
        Streams.changeAll(x, 20, true);
        x.commit();
        Streams.changeAll(x, 19, false);
        Due.answer("3: twenty again behind a commit", x.change(19, false), 20);
        Due.badState("3: change 21", () -> x.change(0, true));
        x.abort();
        Streams.changeAll(x, 19, false);
        Due.answer("3: twenty again behind an abort", x.change(19, false), 20);
        Due.badState("3: change 21", () -> x.change(0, true));
    }

    /** Terms: "COMMITTED it gets the next number (1, 2, ..)" */
    private static void commitGivesTheNextNumber() {
        ChangeStream x = Streams.withFacts(1);
        Due.answer("4: without changes", x.commit(), 1);
        x.change(0, true);
        Due.answer("4: with one", x.commit(), 2);
        x.change(0, true);
        Due.answer("4: with one that changes nothing", x.commit(), 3);
        Due.answer("4: told", x.told(1), 3);
    }

    /** Promise 4: "another one is open, without changes." */
    private static void commitOpensOneWithoutChanges() {
        ChangeStream x = Streams.withFacts(2);
        x.change(0, true);
        x.change(1, true);
        x.commit();
        Due.answer("4: none are open", x.told(5), 0);
        Due.answer("4: none to abort", x.abort(), 0);
        x.commit();
        Due.answer("4: the changes are not made again", x.told(3), 2);
        Due.answer("4: the first change of the next", x.change(0, false), 1);
    }

    /** Terms: "A transaction may have no rows." */
    private static void transactionWithoutRows() {
        ChangeStream x = Streams.withReader(1);
        x.commit();
        Due.answer("4: no row of no change", x.told(3), 0);
        x.change(0, true);
        x.abort();
        x.commit();
        Due.answer("4: no row of an aborted one", x.told(3), 0);
        Due.badArgument("4: there is no row 0", () -> x.row(0, 0));
        Due.answer("4: transactions", x.told(1), 2);
        Streams.sees(x, 0);
    }

    /** Terms: "for each fact that is changed by it (IN before, but not behind it, or the other way" */
    private static void whatIsInDoesNotComeIn() {
        ChangeStream x = Streams.withFacts(1);
        Streams.bringIn(x, 1);
        x.change(0, true);
        x.commit();
        Due.answer("4: rows", x.told(3), 1);
        Due.answer("4: it is in", x.contains(0), true);
    }

    private static void whatIsOutDoesNotGo() {
        ChangeStream x = Streams.withFacts(1);
        x.change(0, false);
        x.commit();
        Due.answer("4: rows", x.told(3), 0);
        Due.answer("4: it is not in", x.contains(0), false);
    }

    /** Terms: "of several changes of one fact the last one counts" */
    private static void lastChangeOfOneFactCounts() {
        ChangeStream x = Streams.withFacts(3);
        x.change(0, true);
        x.change(1, false);
        x.change(2, true);
        x.change(0, false);
        x.change(1, true);
        x.commit();
        Due.answer("4: rows", x.told(3), 2);
        Streams.row("4: it came at last", x, 0, 1, 1, 1, 1, 1);
        Streams.row("4: its one change", x, 1, 1, 2, 1, 2, 2);
        x.change(1, false);
        x.change(1, true);
        x.change(2, true);
        x.change(2, false);
        x.commit();
        Due.answer("4: rows", x.told(3), 3);
        Streams.row("4: it went at last", x, 2, 2, 2, 0, 2, 2);
    }

    /** Terms: "those that go first, each sort in the order of the facts" */
    private static void goingRowsComeFirst() {
        ChangeStream x = Streams.withFacts(6);
        for (int fact : new int[] {5, 1, 3}) {
            x.change(fact, true);
        }
        x.commit();
        for (int fact : new int[] {4, 0, 2}) {
            x.change(fact, true);
        }
        for (int fact : new int[] {5, 1, 3}) {
            x.change(fact, false);
        }
        x.commit();
        int[] facts = {1, 3, 5, 1, 3, 5, 0, 2, 4};
        int[] coming = {1, 1, 1, 0, 0, 0, 1, 1, 1};
        Due.answer("4: rows of both", x.told(3), facts.length);
        for (int i = 0; i < facts.length; i++) {
            Streams.row("4", x, i, i < 3 ? 1 : 2, facts[i], coming[i], facts[i], facts[i]);
        }
    }

    private static void rowsOfFirstAndLastFact() {
        ChangeStream x = Streams.withFacts(100);
        x.change(99, true);
        x.commit();
        x.change(0, true);
        x.change(99, false);
        x.commit();
        Streams.row("4: 99 comes", x, 0, 1, 99, 1, 3, 3);
        Streams.row("4: 99 goes, before 0 comes", x, 1, 2, 99, 0, 3, 3);
        Streams.row("4: 0 comes", x, 2, 2, 0, 1, 0, 0);
    }

    /** Terms: "Rows of all transactions are numbered 0, 1, .. in their order." */
    private static void rowsAreNumberedOverAll() {
        ChangeStream x = Streams.withFacts(3);
        Streams.bringIn(x, 2);
        x.commit();
        Streams.flip(x, 2, 1);
        x.keep(1);
        Streams.flip(x, 0, 1);
        Due.answer("4: rows in all, gone ones too", x.told(3), 4);
        Streams.row("4: the fourth", x, 3, 4, 0, 0, 0, 0);
        Due.badArgument("4: there is no fifth", () -> x.row(4, 0));
    }

    /** Promise 5: "how many it had" */
    private static void abortWithoutChanges() {
        ChangeStream x = Streams.withFacts(1);
        Due.answer("5: of nothing", x.abort(), 0);
        x.change(0, true);
        x.commit();
        Due.answer("5: behind a commit", x.abort(), 0);
        Due.answer("5: what is committed stays", x.contains(0), true);
    }

    /** Promise 5: "The open transaction has no changes any more" */
    private static void abortDropsTheChanges() {
        ChangeStream x = Streams.withFacts(3);
        x.change(0, true);
        x.commit();
        x.change(0, false);
        x.change(1, true);
        x.change(1, true);
        Due.answer("5: abort of three", x.abort(), 3);
        Due.answer("5: told", x.told(5), 0);
        Due.answer("5: abort again", x.abort(), 0);
        x.change(2, true);
        x.commit();
        Due.answer("5: the later change alone has a row", x.told(3), 2);
        Due.answer("5: fact 0 is still in", x.contains(0), true);
        Due.answer("5: fact 1 is still out", x.contains(1), false);
        Due.answer("5: fact 2 came in", x.contains(2), true);
    }

    private static void abortOfTwenty() {
        ChangeStream x = Streams.withFacts(20);
        Streams.changeAll(x, 20, true);
        Due.badState("5: it is full", () -> x.change(0, true));
        Due.answer("5: abort", x.abort(), 20);
        Due.answer("5: a change behind it", x.change(0, true), 1);
    }

    private static void abortBesideOneHundredFacts() {
        ChangeStream x = Streams.withFacts(100);
        x.change(0, true);
        x.change(99, true);
        Due.answer("5: abort", x.abort(), 2);
        x.commit();
        Due.answer("5: no rows", x.told(3), 0);
        Due.answer("5: the last fact is not in", x.contains(99), false);
    }

    private static void abortTakesNoNumber() {
        ChangeStream x = Streams.withFacts(1);
        x.change(0, true);
        x.abort();
        Due.answer("5: transactions", x.told(1), 0);
        Due.answer("5: the next number", x.commit(), 1);
    }

    /** Terms: "none is IN the store at first" */
    private static void noFactIsInAtFirst() {
        ChangeStream x = Streams.withFacts(100);
        for (int fact = 0; fact < 100; fact++) {
            Due.answer("6: contains(" + fact + ")", x.contains(fact), false);
        }
    }

    /** Promise 6: "Whether a fact is IN the store." */
    private static void containsLooksAtCommitted() {
        ChangeStream x = Streams.withFacts(2);
        x.change(0, true);
        Due.answer("6: an open change does not count", x.contains(0), false);
        x.commit();
        Due.answer("6: a committed one does", x.contains(0), true);
        Due.answer("6: another fact's does not", x.contains(1), false);
        x.change(0, false);
        Due.answer("6: an open change does not count", x.contains(0), true);
        x.commit();
        Due.answer("6: a committed one does", x.contains(0), false);
    }

    /** Promise 6: "IllegalArgumentException": there is no such fact. */
    private static void containsOfFirstAndLast() {
        ChangeStream x = Streams.withFacts(3);
        Due.badArgument("6: contains(-1)", () -> x.contains(-1) ? 1 : 0);
        Due.answer("6: contains(0)", x.contains(0), false);
        Due.answer("6: contains(2)", x.contains(2), false);
        Due.badArgument("6: contains(3)", () -> x.contains(3) ? 1 : 0);
    }
}
