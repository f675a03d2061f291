/** Changes of a store, told to readers row by row; ../shared/DOC.md has the promises. */
public final class ChangeStream {
    public static final int NONE = -1, WAIT = -2, GAP = -3;

    private static final int GRAPHS = 8;
    private static final int PROPERTIES = 16;
    private static final int MOST_FACTS = 100;
    private static final int MOST_CHANGES = 20;
    private static final int MOST_KEPT = 30;
    private static final int MOST_READERS = 6;
    private static final int MOST_TAKEN = 20;
    private static final int MOST_RIGHTS = 40;

    private static final int FILTER_ALL = 0;
    private static final int FILTER_COMING = 1;
    private static final int FILTER_GOING = 2;
    private static final int FILTER_BELOW = 3;
    private static final int FILTER_DIVIDED = 4;

    private final Store store;
    private final Log log;
    private final Reader[] readers;
    private int readerCount;

    public ChangeStream() {
        store = new Store();
        log = new Log();
        readers = new Reader[MOST_READERS];
        readerCount = 0;
    }

    public int fact(int graph, int property) throws IllegalArgumentException, IllegalStateException {
        demand(isWithin(graph, 0, GRAPHS - 1));
        demand(isWithin(property, 0, PROPERTIES - 1));
        if (store.factCount >= MOST_FACTS) {
            throw new IllegalStateException("no more facts");
        }
        return store.addFact(graph, property);
    }

    public int change(int fact, boolean in) throws IllegalArgumentException, IllegalStateException {
        demand(store.hasFact(fact));
        if (store.changeCount >= MOST_CHANGES) {
            throw new IllegalStateException("no more changes in this transaction");
        }
        return store.putChange(fact, in);
    }

    public int commit() {
        log.beginTransaction();
        logChanged(false);
        logChanged(true);
        store.acceptChanges();
        return log.transactions;
    }

    public int abort() {
        return store.dropChanges();
    }

    public boolean contains(int fact) throws IllegalArgumentException {
        demand(store.hasFact(fact));
        return store.in[fact];
    }

    public int keep(int n) throws IllegalArgumentException {
        demand(isWithin(n, 1, MOST_KEPT));
        int before = log.kept;
        log.kept = n;
        log.forgetOlder();
        return before;
    }

    public int reader(int from, int graph, int property) throws IllegalArgumentException, IllegalStateException {
        demand(isWithin(from, 1, log.transactions + 1));
        demand(isWithin(graph, NONE, GRAPHS - 1));
        demand(isWithin(property, NONE, PROPERTIES - 1));
        if (readerCount >= MOST_READERS) {
            throw new IllegalStateException("no more readers");
        }
        Reader made = new Reader(graph, property);
        made.moveTo(from, log.firstRowFrom(from));
        readers[readerCount] = made;
        readerCount++;
        return readerCount - 1;
    }

    public void filter(int reader, int kind, int number) throws IllegalArgumentException {
        Reader found = readerAt(reader);
        demand(isWithin(kind, FILTER_ALL, FILTER_DIVIDED));
        found.filterKind = kind;
        found.filterNumber = number;
    }

    public int throttle(int reader, int rows) throws IllegalArgumentException {
        Reader found = readerAt(reader);
        demand(isWithin(rows, 1, MOST_TAKEN));
        int before = found.mostTaken;
        found.mostTaken = rows;
        return before;
    }

    public void right(int reader, int fact, boolean on) throws IllegalArgumentException, IllegalStateException {
        Reader found = readerAt(reader);
        demand(store.hasFact(fact));
        if (found.rightCount >= MOST_RIGHTS) {
            throw new IllegalStateException("no more changes of this reader's rights");
        }
        found.putRight(fact, on, log.transactions + 1);
    }

    public int next(int reader) throws IllegalArgumentException {
        Reader found = readerAt(reader);
        if (found.atTransaction < log.least) {
            found.missed += log.least - found.atTransaction;
            found.moveTo(log.least, log.firstKept);
            return GAP;
        }
        for (int number = found.atRow; number < log.rowCount; number++) {
            if (isSeen(found, number)) {
                return takeOrWait(found, number);
            }
        }
        found.moveTo(log.transactions + 1, log.rowCount);
        return NONE;
    }

    public int done(int reader, int number) throws IllegalArgumentException {
        Reader found = readerAt(reader);
        demand(isWithin(number, 0, log.transactions));
        return found.finishUpTo(number);
    }

    public int resume(int reader) throws IllegalArgumentException {
        return readerAt(reader).beginAgain();
    }

    public int row(int i, int what) throws IllegalArgumentException {
        demand(isWithin(i, 0, log.rowCount - 1));
        demand(isWithin(what, 0, 4));
        if (i < log.firstKept) {
            return NONE;
        }
        int fact = log.factOf(i);
        switch (what) {
            case 0: return log.transactionOf(i);
            case 1: return fact;
            case 2: return log.comesIn(i) ? 1 : 0;
            case 3: return store.graphs[fact];
            default: return store.properties[fact];
        }
    }

    public int about(int reader, int what) throws IllegalArgumentException {
        Reader found = readerAt(reader);
        demand(isWithin(what, 0, 4));
        switch (what) {
            case 0: return found.takenCount;
            case 1: return found.atTransaction;
            case 2: return found.missed;
            case 3: return found.failures;
            default: return found.tookInAll;
        }
    }

    public int told(int what) throws IllegalArgumentException {
        demand(isWithin(what, 0, 5));
        switch (what) {
            case 0: return store.factCount;
            case 1: return log.transactions;
            case 2: return log.least;
            case 3: return log.rowCount;
            case 4: return readerCount;
            default: return store.changeCount;
        }
    }

    private static boolean isWithin(int number, int least, int most) {
        return number >= least && number <= most;
    }

    private static void demand(boolean holds) {
        if (!holds) {
            throw new IllegalArgumentException("no such thing, or a number that may not be");
        }
    }

    private Reader readerAt(int number) {
        Reader found = isWithin(number, 0, readerCount - 1) ? readers[number] : null;
        if (found == null) {
            throw new IllegalArgumentException("no such reader");
        }
        return found;
    }

    private void logChanged(boolean coming) {
        for (int fact = 0; fact < store.factCount; fact++) {
            if (store.isChanged(fact) && store.behind[fact] == coming) {
                log.addRow(fact, coming);
            }
        }
    }

    /** The filter is asked last: it must not fail, and so show, a row that the reader has no right to. */
    private boolean isSeen(Reader reader, int number) {
        int fact = log.factOf(number);
        return reader.asksFor(store.graphs[fact], store.properties[fact])
            && reader.hasRight(fact, log.transactionOf(number))
            && reader.filterLets(fact, log.comesIn(number));
    }

    private int takeOrWait(Reader reader, int number) {
        int transaction = log.transactionOf(number);
        if (reader.takenCount >= reader.mostTaken) {
            reader.moveTo(transaction, number);
            return WAIT;
        }
        reader.take(transaction, number);
        return number;
    }

    /** The facts, and the open transaction as what the store will be behind it. */
    private static final class Store {
        final int[] graphs = new int[MOST_FACTS];
        final int[] properties = new int[MOST_FACTS];
        final boolean[] in = new boolean[MOST_FACTS];
        // Of several changes of one fact only the last counts, so the changes themselves need not be held.
        final boolean[] behind = new boolean[MOST_FACTS];
        int factCount = 0;
        int changeCount = 0;

        boolean hasFact(int fact) {
            return isWithin(fact, 0, factCount - 1);
        }

        boolean isChanged(int fact) {
            return in[fact] != behind[fact];
        }

        int addFact(int graph, int property) {
            graphs[factCount] = graph;
            properties[factCount] = property;
            factCount++;
            return factCount - 1;
        }

        int putChange(int fact, boolean comes) {
            behind[fact] = comes;
            changeCount++;
            return changeCount;
        }

        void acceptChanges() {
            for (int fact = 0; fact < factCount; fact++) {
                in[fact] = behind[fact];
            }
            changeCount = 0;
        }

        int dropChanges() {
            for (int fact = 0; fact < factCount; fact++) {
                behind[fact] = in[fact];
            }
            int dropped = changeCount;
            changeCount = 0;
            return dropped;
        }
    }

    /** The rows that are kept, in rings: a row's place is used again once the row is gone. */
    private static final class Log {
        private static final int MOST_ROWS = MOST_KEPT * MOST_CHANGES;

        private final int[] transactionsOfRows = new int[MOST_ROWS];
        private final int[] factsOfRows = new int[MOST_ROWS];
        private final boolean[] comingRows = new boolean[MOST_ROWS];
        int kept = 10;
        int transactions = 0;
        int least = 1;
        int rowCount = 0;
        int firstKept = 0;

        int transactionOf(int number) {
            return transactionsOfRows[placeOf(number)];
        }

        int factOf(int number) {
            return factsOfRows[placeOf(number)];
        }

        boolean comesIn(int number) {
            return comingRows[placeOf(number)];
        }

        /** Older rows go before new ones come, so that the rings have room for all that is kept. */
        void beginTransaction() {
            transactions++;
            forgetOlder();
        }

        void addRow(int fact, boolean coming) {
            int place = placeOf(rowCount);
            transactionsOfRows[place] = transactions;
            factsOfRows[place] = fact;
            comingRows[place] = coming;
            rowCount++;
        }

        /** LEAST never falls: rows that are gone do not come back when more are kept later. */
        void forgetOlder() {
            least = Math.max(least, transactions - kept + 1);
            firstKept = firstRowFrom(least);
        }

        /** Of the kept rows; for a transaction that is gone its reader meets a GAP before it looks at rows. */
        int firstRowFrom(int transaction) {
            for (int number = firstKept; number < rowCount; number++) {
                if (transactionOf(number) >= transaction) {
                    return number;
                }
            }
            return rowCount;
        }

        private static int placeOf(int number) {
            return Math.floorMod(number, MOST_ROWS);
        }
    }

    private static final class Reader {
        private final int graph;
        private final int property;
        // Taken rows outlive the log's: a reader may have them not done when they are kept no more.
        private final int[] takenRows = new int[MOST_TAKEN];
        private final int[] takenTransactions = new int[MOST_TAKEN];
        private final int[] rightFacts = new int[MOST_RIGHTS];
        private final int[] rightsFrom = new int[MOST_RIGHTS];
        private final boolean[] rightsOn = new boolean[MOST_RIGHTS];
        int atTransaction = 1;
        int atRow = 0;
        int filterKind = FILTER_ALL;
        int filterNumber = 0;
        int mostTaken = 5;
        int takenCount = 0;
        int rightCount = 0;
        int missed = 0;
        int failures = 0;
        int tookInAll = 0;

        Reader(int graph, int property) {
            this.graph = graph;
            this.property = property;
        }

        void moveTo(int transaction, int number) {
            atTransaction = transaction;
            atRow = number;
        }

        boolean asksFor(int graphOfFact, int propertyOfFact) {
            return (graph == NONE || graph == graphOfFact)
                && (property == NONE || property == propertyOfFact);
        }

        void putRight(int fact, boolean on, int from) {
            rightFacts[rightCount] = fact;
            rightsOn[rightCount] = on;
            rightsFrom[rightCount] = from;
            rightCount++;
        }

        boolean hasRight(int fact, int transaction) {
            for (int i = rightCount - 1; i >= 0; i--) {
                if (rightFacts[i] == fact && rightsFrom[i] <= transaction) {
                    return rightsOn[i];
                }
            }
            return true;
        }

        boolean filterLets(int fact, boolean coming) {
            switch (filterKind) {
                case FILTER_COMING: return coming;
                case FILTER_GOING: return !coming;
                case FILTER_BELOW: return fact < filterNumber;
                case FILTER_DIVIDED: return isDivided(fact);
                default: return true;
            }
        }

        private boolean isDivided(int fact) {
            if (filterNumber == 0) {
                failures++;
                return true;
            }
            return fact % filterNumber == 0;
        }

        void take(int transaction, int number) {
            takenRows[takenCount] = number;
            takenTransactions[takenCount] = transaction;
            takenCount++;
            tookInAll++;
            moveTo(transaction, number + 1);
        }

        /** Rows are taken in order, so what is done is always the first part of them. */
        int finishUpTo(int transaction) {
            int finished = 0;
            while (finished < takenCount && takenTransactions[finished] <= transaction) {
                finished++;
            }
            takenCount -= finished;
            System.arraycopy(takenRows, finished, takenRows, 0, takenCount);
            System.arraycopy(takenTransactions, finished, takenTransactions, 0, takenCount);
            return finished;
        }

        int beginAgain() {
            int had = takenCount;
            if (had > 0) {
                moveTo(takenTransactions[0], takenRows[0]);
            }
            takenCount = 0;
            return had;
        }
    }
}
