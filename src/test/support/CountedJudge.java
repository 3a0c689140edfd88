/**
 * A HistoryJudge that counts its calls: nothing is promised behind the 512th, so a test that asks
 * more of one object would prove nothing.
 */
final class CountedJudge {
    private static final int MOST_CALLS = 512;

    private final HistoryJudge judge = new HistoryJudge();
    private int calls = 0;

    private HistoryJudge next() {
        calls++;
        if (calls > MOST_CALLS) {
            throw new AssertionError("a test makes more than " + MOST_CALLS + " calls of one object");
        }
        return judge;
    }

    int write(int t, int item) {
        return next().write(t, item);
    }

    int read(int t, int item, int version) {
        return next().read(t, item, version);
    }

    void end(int t, boolean commits) {
        next().end(t, commits);
    }

    int state(int t) {
        return next().state(t);
    }

    int version(int item, int i) {
        return next().version(item, i);
    }

    boolean exchange(int item, int i) {
        return next().exchange(item, i);
    }

    int edges(int a, int b) {
        return next().edges(a, b);
    }

    int flaws() {
        return next().flaws();
    }

    int level() {
        return next().level();
    }

    int cycle(int kind) {
        return next().cycle(kind);
    }

    int step(int kind, int i) {
        return next().step(kind, i);
    }

    boolean serial() {
        return next().serial();
    }

    int place(int i) {
        return next().place(i);
    }

    int beginnings() {
        return next().beginnings();
    }

    int clear() {
        return next().clear();
    }
}
