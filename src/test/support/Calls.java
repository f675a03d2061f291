/** The calls that answer nothing, as calls that answer 0, so that they are compared like the others. */
final class Calls {
    private Calls() { }

    static long filter(ChangeStream x, int reader, int kind, int number) {
        x.filter(reader, kind, number);
        return 0;
    }

    static long right(ChangeStream x, int reader, int fact, boolean on) {
        x.right(reader, fact, on);
        return 0;
    }
}
