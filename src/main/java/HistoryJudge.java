import java.util.Arrays;
import java.util.NoSuchElementException;

/**
 * Judges a history of transactions that write and read items: from dependencies it tells how well
 * they were kept apart, with a cycle to show when they were not; and whether some serial order
 * would have read the same.
 */
public final class HistoryJudge {
    public static final int NONE = -1;

    private static final int TRANSACTIONS = 8;
    private static final int ITEMS = 6;
    private static final int MOST_VERSIONS = 40;
    private static final int MOST_READS = 60;
    private static final int FIRST_VERSION = -1;

    private static final int IDLE = 0;
    private static final int RUNNING = 1;
    private static final int COMMITTED = 2;
    private static final int ABORTED = 3;

    private static final int WW = 1;
    private static final int WR = 2;
    private static final int RW = 4;

    private static final int KINDS = 4;
    private static final int WRITE_CYCLE = 1;
    private static final int ABORTED_READ = 2;
    private static final int UNFINISHED_READ = 4;
    private static final int FLOW_CYCLE = 8;
    private static final int ONE_RW_CYCLE = 16;
    private static final int RW_CYCLE = 32;

    private final History history;
    private final Graph graph;
    private final CycleSearch cycles;
    private final SerialSearch serials;

    public HistoryJudge() {
        history = new History();
        graph = new Graph();
        cycles = new CycleSearch();
        serials = new SerialSearch();
    }

    public int write(int t, int item)
            throws IllegalArgumentException, IllegalStateException, UnsupportedOperationException {
        if (!isTransaction(t) || !isItem(item)) {
            throw new IllegalArgumentException();
        }
        if (history.hasEnded(t)) {
            throw new IllegalStateException();
        }
        if (history.versions >= MOST_VERSIONS) {
            throw new UnsupportedOperationException();
        }
        return history.addVersion(t, item);
    }

    public int read(int t, int item, int version)
            throws IllegalArgumentException, NoSuchElementException, IllegalStateException,
            UnsupportedOperationException {
        if (!isTransaction(t) || !isItem(item)) {
            throw new IllegalArgumentException();
        }
        if (!history.hasVersion(item, version)) {
            throw new NoSuchElementException();
        }
        if (history.hasEnded(t)) {
            throw new IllegalStateException();
        }
        if (history.reads >= MOST_READS) {
            throw new UnsupportedOperationException();
        }
        return history.addRead(t, item, version);
    }

    public void end(int t, boolean commits) throws IllegalArgumentException, IllegalStateException {
        if (!isTransaction(t)) {
            throw new IllegalArgumentException();
        }
        if (history.states[t] != RUNNING) {
            throw new IllegalStateException();
        }
        if (commits) {
            history.commit(t);
        } else {
            history.states[t] = ABORTED;
        }
    }

    public int state(int t) {
        return isTransaction(t) ? history.states[t] : NONE;
    }

    public int version(int item, int i) {
        if (!isItem(item) || i < 0 || i >= history.ordered[item]) {
            return NONE;
        }
        return history.order[item][i];
    }

    public boolean exchange(int item, int i) {
        // i + 1 would wrap round for the greatest i, so the bound is lowered instead.
        if (!isItem(item) || i < 0 || i >= history.ordered[item] - 1) {
            return false;
        }
        int[] row = history.order[item];
        int moved = row[i];
        row[i] = row[i + 1];
        row[i + 1] = moved;
        return true;
    }

    public int edges(int a, int b) {
        if (!isTransaction(a) || !isTransaction(b)) {
            return 0;
        }
        graph.draw(history);
        return (has(graph.ww[a], b) ? WW : 0)
                + (has(graph.wr[a], b) ? WR : 0)
                + (has(graph.rw[a], b) ? RW : 0);
    }

    public int flaws() {
        graph.draw(history);
        return (cycles.find(graph, 0) != 0 ? WRITE_CYCLE : 0)
                + (history.hasAbortedRead() ? ABORTED_READ : 0)
                + (history.hasUnfinishedRead() ? UNFINISHED_READ : 0)
                + (cycles.find(graph, 1) != 0 ? FLOW_CYCLE : 0)
                + (cycles.find(graph, 2) != 0 ? ONE_RW_CYCLE : 0)
                + (cycles.find(graph, 3) != 0 ? RW_CYCLE : 0);
    }

    public int level() {
        int found = flaws();
        if ((found & WRITE_CYCLE) != 0) {
            return 0;
        }
        if ((found & (ABORTED_READ | UNFINISHED_READ | FLOW_CYCLE)) != 0) {
            return 1;
        }
        if ((found & ONE_RW_CYCLE) != 0) {
            return 2;
        }
        return (found & RW_CYCLE) != 0 ? 3 : 4;
    }

    public int cycle(int kind) {
        if (kind < 0 || kind >= KINDS) {
            return 0;
        }
        graph.draw(history);
        return cycles.find(graph, kind);
    }

    public int step(int kind, int i) {
        int length = cycle(kind);
        return i >= 0 && i < length ? cycles.row[i] : NONE;
    }

    public boolean serial() {
        serials.explore(history);
        return serials.isPossible();
    }

    public int place(int i) {
        serials.explore(history);
        return serials.transactionAt(i);
    }

    public int beginnings() {
        serials.explore(history);
        return Integer.bitCount(serials.nexts[0]);
    }

    public int clear() {
        int count = history.versions;
        history.reset();
        return count;
    }

    private static boolean isTransaction(int t) {
        return t >= 0 && t < TRANSACTIONS;
    }

    private static boolean isItem(int item) {
        return item >= 0 && item < ITEMS;
    }

    /** Sets of transactions are held as the bits of a number. */
    private static int only(int t) {
        return 1 << t;
    }

    private static boolean has(int set, int t) {
        return (set & only(t)) != 0;
    }

    /** The least of a set that is not empty; always a transaction, so that it can be an index. */
    private static int least(int set) {
        int t = 0;
        while (t < TRANSACTIONS - 1 && !has(set, t)) {
            t++;
        }
        return t;
    }

    /** What was written, read and ended, and the order of every item. */
    private static final class History {
        final int[] states = new int[TRANSACTIONS];

        final int[] writers = new int[MOST_VERSIONS];
        final int[] writtenItems = new int[MOST_VERSIONS];
        int versions;

        final int[] readers = new int[MOST_READS];
        final int[] readItems = new int[MOST_READS];
        final int[] readVersions = new int[MOST_READS];
        /** The reader's own latest version of the item at the time of the read, or NONE. */
        final int[] ownVersions = new int[MOST_READS];
        int reads;

        /** The latest version that a transaction wrote of an item, or NONE. */
        final int[][] latest = new int[TRANSACTIONS][ITEMS];
        final int[][] order = new int[ITEMS][TRANSACTIONS];
        final int[] ordered = new int[ITEMS];

        History() {
            reset();
        }

        void reset() {
            versions = 0;
            reads = 0;
            Arrays.fill(states, IDLE);
            Arrays.fill(ordered, 0);
            for (int t = 0; t < TRANSACTIONS; t++) {
                Arrays.fill(latest[t], NONE);
            }
        }

        boolean hasEnded(int t) {
            return states[t] == COMMITTED || states[t] == ABORTED;
        }

        boolean isCommitted(int t) {
            return states[t] == COMMITTED;
        }

        boolean hasVersion(int item, int version) {
            if (version == FIRST_VERSION) {
                return true;
            }
            return version >= 0 && version < versions && writtenItems[version] == item;
        }

        int addVersion(int t, int item) {
            int version = versions;
            writers[version] = t;
            writtenItems[version] = item;
            latest[t][item] = version;
            states[t] = RUNNING;
            versions++;
            return version;
        }

        int addRead(int t, int item, int version) {
            readers[reads] = t;
            readItems[reads] = item;
            readVersions[reads] = version;
            ownVersions[reads] = latest[t][item];
            states[t] = RUNNING;
            reads++;
            return reads;
        }

        void commit(int t) {
            states[t] = COMMITTED;
            for (int item = 0; item < ITEMS; item++) {
                if (latest[t][item] != NONE && ordered[item] < TRANSACTIONS) {
                    order[item][ordered[item]] = latest[t][item];
                    ordered[item]++;
                }
            }
        }

        int committedSet() {
            int set = 0;
            for (int t = 0; t < TRANSACTIONS; t++) {
                if (isCommitted(t)) {
                    set |= only(t);
                }
            }
            return set;
        }

        boolean hasWritten(int t, int item) {
            return latest[t][item] != NONE;
        }

        boolean isFinal(int version) {
            return latest[writers[version]][writtenItems[version]] == version;
        }

        /** The transaction that wrote the next version of one, NONE when there is no next one. */
        int writerOfNext(int item, int version) {
            int place = version == FIRST_VERSION ? 0 : placeBehind(item, version);
            return place < ordered[item] ? writers[order[item][place]] : NONE;
        }

        /** One that is not in the order has nothing behind it, just like the last one. */
        private int placeBehind(int item, int version) {
            for (int i = 0; i < ordered[item]; i++) {
                if (order[item][i] == version) {
                    return i + 1;
                }
            }
            return ordered[item];
        }

        boolean hasAbortedRead() {
            for (int r = 0; r < reads; r++) {
                if (isJudgedRead(r) && !isCommitted(writers[readVersions[r]])) {
                    return true;
                }
            }
            return false;
        }

        boolean hasUnfinishedRead() {
            for (int r = 0; r < reads; r++) {
                if (isJudgedRead(r) && isOfAnotherCommitted(r) && !isFinal(readVersions[r])) {
                    return true;
                }
            }
            return false;
        }

        /** A read by a committed transaction of a version that somebody wrote. */
        private boolean isJudgedRead(int r) {
            return isCommitted(readers[r]) && readVersions[r] != FIRST_VERSION;
        }

        private boolean isOfAnotherCommitted(int r) {
            int writer = writers[readVersions[r]];
            return writer != readers[r] && isCommitted(writer);
        }
    }

    /** The edges among committed transactions: for each sort and transaction the set it leads to. */
    private static final class Graph {
        final int[] ww = new int[TRANSACTIONS];
        final int[] wr = new int[TRANSACTIONS];
        final int[] rw = new int[TRANSACTIONS];

        void draw(History history) {
            Arrays.fill(ww, 0);
            Arrays.fill(wr, 0);
            Arrays.fill(rw, 0);
            for (int item = 0; item < ITEMS; item++) {
                drawOrder(history, item);
            }
            for (int r = 0; r < history.reads; r++) {
                if (history.isCommitted(history.readers[r])) {
                    drawRead(history, r);
                }
            }
        }

        private void drawOrder(History history, int item) {
            int[] row = history.order[item];
            for (int i = 1; i < history.ordered[item]; i++) {
                join(ww, history.writers[row[i - 1]], history.writers[row[i]]);
            }
        }

        private void drawRead(History history, int r) {
            int reader = history.readers[r];
            int version = history.readVersions[r];
            if (version != FIRST_VERSION && history.isCommitted(history.writers[version])) {
                join(wr, history.writers[version], reader);
            }
            int overwriter = history.writerOfNext(history.readItems[r], version);
            if (overwriter != NONE) {
                join(rw, reader, overwriter);
            }
        }

        private static void join(int[] sort, int from, int to) {
            if (from != to) {
                sort[from] |= only(to);
            }
        }
    }

    /**
     * Finds the cycle of a kind as the shortest closed walk. A shortest one never meets a
     * transaction twice, for it could be cut there into two shorter ones, one of them of the same
     * kind; so walks need not remember where they have been.
     *
     * Kinds 2 and 3 ask for one edge that is marked, an RW; the other edges are plain, and for
     * kind 3 every edge is plain too.
     */
    private static final class CycleSearch {
        private final int[] plain = new int[TRANSACTIONS];
        private final int[] marked = new int[TRANSACTIONS];
        /** By number of edges: from where so many plain edges lead to the goal. */
        private final int[] paid = new int[TRANSACTIONS + 1];
        /** By number of edges: from where so many edges, just one of them marked, lead there. */
        private final int[] owing = new int[TRANSACTIONS + 1];
        final int[] row = new int[TRANSACTIONS];

        /** Answers the length of the cycle, 0 when there is none, and leaves the cycle in row. */
        int find(Graph graph, int kind) {
            sortEdges(graph, kind);
            boolean needsMark = kind >= 2;
            int length = 0;
            int first = 0;
            for (int t = 0; t < TRANSACTIONS; t++) {
                measure(t);
                int found = shortest(needsMark ? owing : paid, t);
                if (found != 0 && (length == 0 || found < length)) {
                    length = found;
                    first = t;
                }
            }
            if (length != 0) {
                measure(first);
                trace(first, length, needsMark);
            }
            return length;
        }

        private void sortEdges(Graph graph, int kind) {
            for (int t = 0; t < TRANSACTIONS; t++) {
                int flow = kind >= 1 ? graph.wr[t] : 0;
                int all = kind >= 3 ? graph.rw[t] : 0;
                plain[t] = graph.ww[t] | flow | all;
                marked[t] = graph.rw[t];
            }
        }

        private void measure(int goal) {
            paid[0] = only(goal);
            owing[0] = 0;
            for (int k = 1; k <= TRANSACTIONS; k++) {
                paid[k] = leadingInto(plain, paid[k - 1]);
                owing[k] = leadingInto(plain, owing[k - 1]) | leadingInto(marked, paid[k - 1]);
            }
        }

        private static int leadingInto(int[] edges, int goals) {
            int set = 0;
            for (int t = 0; t < TRANSACTIONS; t++) {
                if ((edges[t] & goals) != 0) {
                    set |= only(t);
                }
            }
            return set;
        }

        private static int shortest(int[] walks, int t) {
            for (int k = 2; k <= TRANSACTIONS; k++) {
                if (has(walks[k], t)) {
                    return k;
                }
            }
            return 0;
        }

        /**
         * Goes to the least one from where the way home can be ended in time. Where an edge is both
         * plain and marked it stays open which it counts as, since the least row is asked for
         * whatever its edges are: so both can be true, that a mark is owing and that it is paid.
         */
        private void trace(int first, int length, boolean needsMark) {
            boolean mayOwe = needsMark;
            boolean mayBePaid = !needsMark;
            row[0] = first;
            for (int i = 1; i < length; i++) {
                int from = row[i - 1];
                int left = length - i;
                int stillOwing = mayOwe ? plain[from] & owing[left] : 0;
                int nowPaid = mayOwe ? marked[from] & paid[left] : 0;
                int stillPaid = mayBePaid ? plain[from] & paid[left] : 0;
                int next = least(stillOwing | nowPaid | stillPaid);
                mayOwe = has(stillOwing, next);
                mayBePaid = has(nowPaid | stillPaid, next);
                row[i] = next;
            }
        }
    }

    /**
     * Finds the serial orders by sets: a transaction is let in behind a set only when every read
     * that is still to come keeps the version it needs, so what can follow a set does not depend
     * on the order within it.
     */
    private static final class SerialSearch {
        /** For each transaction those that must stand before it. */
        private final int[] before = new int[TRANSACTIONS];
        /** By a writer and another writer: the readers of the one that the other must not cut off. */
        private final int[][] readersBetween = new int[TRANSACTIONS][TRANSACTIONS];
        /** For each set that may stand first: those that can follow it so that an order is ended. */
        final int[] nexts = new int[1 << TRANSACTIONS];
        private int committed;
        /** Whether no read rules out every order by itself. */
        private boolean sound;

        void explore(History history) {
            takeReads(history);
            for (int done = nexts.length - 1; done >= 0; done--) {
                boolean asked = sound && (done & ~committed) == 0;
                nexts[done] = asked ? followers(done) : 0;
            }
        }

        boolean isPossible() {
            return sound && canBeEnded(0);
        }

        int transactionAt(int i) {
            if (!isPossible() || i < 0 || i >= Integer.bitCount(committed)) {
                return NONE;
            }
            int done = 0;
            for (int k = 0; k < i; k++) {
                done |= only(least(nexts[done]));
            }
            return least(nexts[done]);
        }

        private void takeReads(History history) {
            committed = history.committedSet();
            sound = true;
            Arrays.fill(before, 0);
            for (int t = 0; t < TRANSACTIONS; t++) {
                Arrays.fill(readersBetween[t], 0);
            }
            for (int r = 0; r < history.reads; r++) {
                if (history.isCommitted(history.readers[r])) {
                    takeRead(history, r);
                }
            }
        }

        private void takeRead(History history, int r) {
            int version = history.readVersions[r];
            if (history.ownVersions[r] != NONE) {
                // Behind a write of its own, a transaction reads what it wrote in every order.
                sound = sound && version == history.ownVersions[r];
            } else if (version == FIRST_VERSION) {
                takeFirstRead(history, history.readers[r], history.readItems[r]);
            } else if (history.isCommitted(history.writers[version]) && history.isFinal(version)) {
                takeForeignRead(history, r, history.writers[version]);
            } else {
                sound = false;
            }
        }

        private void takeFirstRead(History history, int reader, int item) {
            for (int t = 0; t < TRANSACTIONS; t++) {
                if (t != reader && has(committed, t) && history.hasWritten(t, item)) {
                    before[t] |= only(reader);
                }
            }
        }

        private void takeForeignRead(History history, int r, int writer) {
            int reader = history.readers[r];
            int item = history.readItems[r];
            before[reader] |= only(writer);
            for (int t = 0; t < TRANSACTIONS; t++) {
                if (t != reader && t != writer && history.hasWritten(t, item)) {
                    readersBetween[writer][t] |= only(reader);
                }
            }
        }

        private int followers(int done) {
            int set = 0;
            for (int t = 0; t < TRANSACTIONS; t++) {
                boolean waits = has(committed, t) && !has(done, t);
                if (waits && mayFollow(t, done) && canBeEnded(done | only(t))) {
                    set |= only(t);
                }
            }
            return set;
        }

        private boolean mayFollow(int t, int done) {
            if ((before[t] & ~done) != 0) {
                return false;
            }
            for (int writer = 0; writer < TRANSACTIONS; writer++) {
                if (has(done, writer) && (readersBetween[writer][t] & ~done) != 0) {
                    return false;
                }
            }
            return true;
        }

        private boolean canBeEnded(int done) {
            return done == committed || nexts[done] != 0;
        }
    }
}
