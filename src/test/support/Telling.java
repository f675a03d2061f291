import java.util.function.LongSupplier;

/**
 * All that an object can tell, as one text: what it answers now and, since throttles, filters, rights, places and open
 * changes are not told, what it then goes on to do. The object is changed by it.
 */
final class Telling {
    private static final int MOST_NEXT = 30;
    private static final int MOST_RIGHTS = 41;
    private static final int MOST_CHANGED = 6;

    private final ChangeStream x;
    // Asked once: a telling stays within the 512 calls of an object, also of one that is full.
    private final int facts;
    private final int readers;
    private final StringBuilder text = new StringBuilder();

    private Telling(ChangeStream x) {
        this.x = x;
        facts = x.told(0);
        readers = x.told(4);
    }

    static String of(ChangeStream x) {
        Telling telling = new Telling(x);
        telling.counts();
        telling.store();
        telling.rows();
        telling.readersGoOn();
        telling.rightsLeft();
        telling.readersMeetAnotherTransaction();
        return telling.text.toString();
    }

    private void counts() {
        for (int i = 0; i <= 5; i++) {
            int what = i;
            tell("told", () -> x.told(what));
        }
        for (int i = 0; i < readers * 5; i++) {
            int number = i;
            tell("about", () -> x.about(number / 5, number % 5));
        }
    }

    /** The open transaction's changes show when it is committed. */
    private void store() {
        tell("keep", () -> x.keep(30));
        tell("commit", x::commit);
        for (int i = 0; i < facts; i++) {
            int fact = i;
            tell("contains", () -> x.contains(fact) ? 1 : 0);
        }
    }

    private void rows() {
        tell("least", () -> x.told(2));
        int rows = x.told(3);
        for (int i = 0; i < rows; i++) {
            int number = i;
            tell("transaction", () -> x.row(number, 0));
            tell("fact", () -> x.row(number, 1));
            tell("comes", () -> x.row(number, 2));
        }
    }

    private void readersGoOn() {
        for (int i = 0; i < readers; i++) {
            int reader = i;
            tell("next", () -> x.next(reader));
            tell("throttle", () -> x.throttle(reader, 20));
            untilNone(reader);
            tell("resume", () -> x.resume(reader));
            tell("again", () -> x.next(reader));
        }
    }

    private void untilNone(int reader) {
        long answer = 0;
        for (int i = 0; i < MOST_NEXT && answer != ChangeStream.NONE; i++) {
            answer = x.next(reader);
            text.append(" next=").append(answer);
        }
    }

    private void rightsLeft() {
        if (facts == 0 || readers == 0) {
            return;
        }
        String answer = "0";
        for (int i = 0; i < MOST_RIGHTS && answer.equals("0"); i++) {
            answer = Due.outcome(() -> Calls.right(x, 0, 0, true));
            text.append(" right=").append(answer);
        }
    }

    private void readersMeetAnotherTransaction() {
        for (int fact = 0; fact < Math.min(MOST_CHANGED, facts); fact++) {
            x.change(fact, !x.contains(fact));
        }
        tell("commit", x::commit);
        for (int reader = 0; reader < readers; reader++) {
            untilNone(reader);
        }
    }

    private void tell(String call, LongSupplier made) {
        text.append(' ').append(call).append('=').append(Due.outcome(made));
    }
}
