import java.util.ArrayList;
import java.util.List;

/** A second, plain telling of the document: it holds everything that ever was and looks it up anew each time. */
final class Model {
    private record Row(int number, int transaction, int fact, boolean coming) { }

    private record Change(int fact, boolean in) { }

    private static final class Transaction {
        final List<Row> rows = new ArrayList<>();
        final List<boolean[]> rights = new ArrayList<>();
        boolean kept = true;
    }

    private static final class Reader {
        final boolean[] rights = new boolean[100];
        final List<Row> taken = new ArrayList<>();
        int transaction, index, graph, property, kind, number;
        int throttle = 5, rightChanges, missed, failures, took;
    }

    private final List<int[]> facts = new ArrayList<>();
    private final List<Boolean> store = new ArrayList<>();
    private final List<Change> open = new ArrayList<>();
    private final List<Transaction> transactions = new ArrayList<>();
    private final List<Reader> readers = new ArrayList<>();
    private int kept = 10;

    int fact(int graph, int property) {
        need(graph >= 0 && graph <= 7 && property >= 0 && property <= 15);
        allow(facts.size() < 100);
        facts.add(new int[] {graph, property});
        store.add(false);
        return facts.size() - 1;
    }

    int change(int fact, boolean in) {
        needFact(fact);
        allow(open.size() < 20);
        open.add(new Change(fact, in));
        return open.size();
    }

    int commit() {
        Transaction made = new Transaction();
        List<Boolean> behind = new ArrayList<>(store);
        for (Change change : open) {
            behind.set(change.fact, change.in);
        }
        int number = allRows().size();
        for (int turn = 0; turn < 2; turn++) {
            for (int fact = 0; fact < store.size(); fact++) {
                if (store.get(fact) == (turn == 0) && behind.get(fact) == (turn == 1)) {
                    made.rows.add(new Row(number++, transactions.size() + 1, fact, turn == 1));
                }
            }
        }
        for (Reader reader : readers) {
            made.rights.add(reader.rights.clone());
        }
        transactions.add(made);
        for (int fact = 0; fact < store.size(); fact++) {
            store.set(fact, behind.get(fact));
        }
        open.clear();
        forget();
        return transactions.size();
    }

    int abort() {
        int had = open.size();
        open.clear();
        return had;
    }

    int contains(int fact) {
        needFact(fact);
        return store.get(fact) ? 1 : 0;
    }

    int keep(int n) {
        need(n >= 1 && n <= 30);
        int before = kept;
        kept = n;
        forget();
        return before;
    }

    int reader(int from, int graph, int property) {
        need(from >= 1 && from <= transactions.size() + 1);
        need(graph >= -1 && graph <= 7 && property >= -1 && property <= 15);
        allow(readers.size() < 6);
        Reader made = new Reader();
        made.transaction = from;
        made.graph = graph;
        made.property = property;
        java.util.Arrays.fill(made.rights, true);
        readers.add(made);
        return readers.size() - 1;
    }

    int filter(int reader, int kind, int number) {
        Reader found = find(reader);
        need(kind >= 0 && kind <= 4);
        found.kind = kind;
        found.number = number;
        return 0;
    }

    int throttle(int reader, int rows) {
        Reader found = find(reader);
        need(rows >= 1 && rows <= 20);
        int before = found.throttle;
        found.throttle = rows;
        return before;
    }

    int right(int reader, int fact, boolean on) {
        Reader found = find(reader);
        needFact(fact);
        allow(found.rightChanges < 40);
        found.rightChanges++;
        found.rights[fact] = on;
        return 0;
    }

    int next(int reader) {
        Reader found = find(reader);
        if (found.transaction < least()) {
            found.missed += least() - found.transaction;
            found.transaction = least();
            found.index = 0;
            return -3;
        }
        while (found.transaction <= transactions.size()) {
            List<Row> rows = transactions.get(found.transaction - 1).rows;
            for (; found.index < rows.size(); found.index++) {
                Row row = rows.get(found.index);
                if (sees(reader, found, row)) {
                    if (found.taken.size() >= found.throttle) {
                        return -2;
                    }
                    found.taken.add(row);
                    found.took++;
                    found.index++;
                    return row.number;
                }
            }
            found.transaction++;
            found.index = 0;
        }
        return -1;
    }

    int done(int reader, int number) {
        Reader found = find(reader);
        need(number >= 0 && number <= transactions.size());
        int before = found.taken.size();
        found.taken.removeIf(row -> row.transaction <= number);
        return before - found.taken.size();
    }

    int resume(int reader) {
        Reader found = find(reader);
        int had = found.taken.size();
        if (had > 0) {
            Row first = found.taken.get(0);
            found.transaction = first.transaction;
            found.index = transactions.get(first.transaction - 1).rows.indexOf(first);
            found.taken.clear();
        }
        return had;
    }

    int row(int i, int what) {
        List<Row> rows = allRows();
        need(i >= 0 && i < rows.size() && what >= 0 && what <= 4);
        Row row = rows.get(i);
        if (!transactions.get(row.transaction - 1).kept) {
            return -1;
        }
        int[] fact = facts.get(row.fact);
        return new int[] {row.transaction, row.fact, row.coming ? 1 : 0, fact[0], fact[1]}[what];
    }

    int about(int reader, int what) {
        Reader found = find(reader);
        need(what >= 0 && what <= 4);
        return new int[] {found.taken.size(), found.transaction, found.missed, found.failures, found.took}[what];
    }

    int told(int what) {
        need(what >= 0 && what <= 5);
        return new int[] {facts.size(), transactions.size(), least(), allRows().size(), readers.size(),
            open.size()}[what];
    }

    private boolean sees(int number, Reader reader, Row row) {
        int[] fact = facts.get(row.fact);
        List<boolean[]> rights = transactions.get(row.transaction - 1).rights;
        boolean may = number >= rights.size() || rights.get(number)[row.fact];
        if (!may || reader.graph >= 0 && reader.graph != fact[0] || reader.property >= 0 && reader.property != fact[1]) {
            return false;
        }
        try {
            return switch (reader.kind) {
                case 1 -> row.coming;
                case 2 -> !row.coming;
                case 3 -> row.fact < reader.number;
                case 4 -> row.fact % reader.number == 0;
                default -> true;
            };
        } catch (ArithmeticException failed) {
            reader.failures++;
            return true;
        }
    }

    private void forget() {
        for (int i = 0; i < transactions.size() - kept; i++) {
            transactions.get(i).kept = false;
        }
    }

    private int least() {
        for (int i = 0; i < transactions.size(); i++) {
            if (transactions.get(i).kept) {
                return i + 1;
            }
        }
        return 1;
    }

    private List<Row> allRows() {
        List<Row> all = new ArrayList<>();
        for (Transaction transaction : transactions) {
            all.addAll(transaction.rows);
        }
        return all;
    }

    private Reader find(int reader) {
        need(reader >= 0 && reader < readers.size());
        return readers.get(reader);
    }

    private void needFact(int fact) {
        need(fact >= 0 && fact < facts.size());
    }

    private static void need(boolean holds) {
        if (!holds) {
            throw new IllegalArgumentException();
        }
    }

    private static void allow(boolean holds) {
        if (!holds) {
            throw new IllegalStateException();
        }
    }
}
