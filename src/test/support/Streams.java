/** Streams as tests need them, and what readers are due to take from them. */
final class Streams {
    static final int NONE = ChangeStream.NONE;
    static final int WAIT = ChangeStream.WAIT;
    static final int GAP = ChangeStream.GAP;

    private Streams() { }

    static ChangeStream withFacts(int count) {
        ChangeStream x = new ChangeStream();
        for (int i = 0; i < count; i++) {
            x.fact(i % 8, i % 16);
        }
        return x;
    }

    /** Reader 0 asks for all and may take as many as any may. */
    static ChangeStream withReader(int facts) {
        ChangeStream x = withFacts(facts);
        x.reader(1, NONE, NONE);
        x.throttle(0, 20);
        return x;
    }

    /** One transaction in which facts 0 .. count - 1 come in. */
    static void bringIn(ChangeStream x, int count) {
        changeAll(x, count, true);
        x.commit();
    }

    static void changeAll(ChangeStream x, int count, boolean in) {
        for (int fact = 0; fact < count; fact++) {
            x.change(fact, in);
        }
    }

    /** So many transactions of one row each: the fact comes in or goes, by turns. */
    static void flip(ChangeStream x, int fact, int times) {
        for (int i = 0; i < times; i++) {
            x.change(fact, !x.contains(fact));
            x.commit();
        }
    }

    /** So many transactions without rows. */
    static void commitEmpty(ChangeStream x, int times) {
        for (int i = 0; i < times; i++) {
            x.commit();
        }
    }

    /** The reader takes the rows from .. behind - 1. */
    static void takes(ChangeStream x, int reader, int from, int behind) {
        for (int number = from; number < behind; number++) {
            Due.answer("next(" + reader + ") for row " + number, x.next(reader), number);
        }
    }

    /** The reader takes these rows, and then there is none. */
    static void sees(ChangeStream x, int reader, int... rows) {
        for (int number : rows) {
            Due.answer("next(" + reader + ") for row " + number, x.next(reader), number);
        }
        Due.answer("next(" + reader + ") behind the rows it sees", x.next(reader), NONE);
    }

    static void told(String title, ChangeStream x, int... due) {
        for (int what = 0; what < due.length; what++) {
            Due.answer(title + ": told(" + what + ")", x.told(what), due[what]);
        }
    }

    static void about(String title, ChangeStream x, int reader, int... due) {
        for (int what = 0; what < due.length; what++) {
            Due.answer(title + ": about(" + reader + ", " + what + ")", x.about(reader, what), due[what]);
        }
    }

    static void row(String title, ChangeStream x, int i, int... due) {
        for (int what = 0; what < due.length; what++) {
            Due.answer(title + ": row(" + i + ", " + what + ")", x.row(i, what), due[what]);
        }
    }
}
