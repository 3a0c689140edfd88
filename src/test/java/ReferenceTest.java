import java.util.ArrayList;
import java.util.Arrays;
import java.util.List;
import java.util.NoSuchElementException;
import java.util.Random;

/**
 * Made-up histories, always the same ones: every answer is compared with that of a slow judge that
 * follows the document's words, trying out every row for the cycles and every order of transactions.
 */
public final class ReferenceTest {
    private static final int HISTORIES = 6000;
    private static final int MOST_FAULTS = 20;
    /** So few that both comparisons, of some 170 calls each, stay within an object's 512 calls. */
    private static final int MOST_CALLS_MORE = 36;

    private static int wrong = 0;

    /** How often the harder answers came up; a test that never meets them would prove nothing. */
    private static final int[] cyclesByKind = new int[4];
    private static final int[] levels = new int[5];
    private static int longCycles = 0;
    private static int serialsWithCycle = 0;
    private static int serials = 0;
    private static int noSerials = 0;
    private static int severalBeginnings = 0;

    /** A write or a read, as it was. */
    private static final class Act {
        final int t;
        final int item;
        final boolean writes;
        final int version;

        Act(int t, int item, boolean writes, int version) {
            this.t = t;
            this.item = item;
            this.writes = writes;
            this.version = version;
        }
    }

    private static final class SlowJudge {
        final int[] states = new int[8];
        final List<Act> acts = new ArrayList<>();
        final List<Act> writes = new ArrayList<>();
        final List<List<Integer>> orders = new ArrayList<>();
        int reads = 0;

        int[][] edges;
        int[][] found;
        int[] firstOrder;
        int beginnings;

        SlowJudge() {
            for (int i = 0; i < 6; i++) {
                orders.add(new ArrayList<>());
            }
        }

        static boolean inside(int n, int bound) {
            return n >= 0 && n < bound;
        }

        int write(int t, int item) {
            if (!inside(t, 8) || !inside(item, 6)) {
                throw new IllegalArgumentException();
            }
            if (states[t] > 1) {
                throw new IllegalStateException();
            }
            if (writes.size() == 40) {
                throw new UnsupportedOperationException();
            }
            Act act = new Act(t, item, true, writes.size());
            acts.add(act);
            writes.add(act);
            states[t] = 1;
            return act.version;
        }

        int read(int t, int item, int version) {
            if (!inside(t, 8) || !inside(item, 6)) {
                throw new IllegalArgumentException();
            }
            boolean made = inside(version, writes.size()) && writes.get(version).item == item;
            if (version != -1 && !made) {
                throw new NoSuchElementException();
            }
            if (states[t] > 1) {
                throw new IllegalStateException();
            }
            if (reads == 60) {
                throw new UnsupportedOperationException();
            }
            acts.add(new Act(t, item, false, version));
            states[t] = 1;
            return ++reads;
        }

        void end(int t, boolean commits) {
            if (!inside(t, 8)) {
                throw new IllegalArgumentException();
            }
            if (states[t] != 1) {
                throw new IllegalStateException();
            }
            states[t] = commits ? 2 : 3;
            for (Act act : writes) {
                if (commits && act.t == t && isFinal(act)) {
                    orders.get(act.item).add(act.version);
                }
            }
        }

        boolean isFinal(Act write) {
            for (Act other : writes) {
                if (other.t == write.t && other.item == write.item
                        && other.version > write.version) {
                    return false;
                }
            }
            return true;
        }

        int version(int item, int i) {
            return inside(item, 6) && inside(i, orders.get(item).size())
                    ? orders.get(item).get(i) : -1;
        }

        boolean exchange(int item, int i) {
            if (version(item, i) == -1 || version(item, i + 1) == -1) {
                return false;
            }
            Integer moved = orders.get(item).remove(i);
            orders.get(item).add(i + 1, moved);
            return true;
        }

        int clear() {
            int count = writes.size();
            Arrays.fill(states, 0);
            acts.clear();
            writes.clear();
            orders.forEach(List::clear);
            reads = 0;
            return count;
        }

        boolean committed(int t) {
            return states[t] == 2;
        }

        void judge() {
            edges = new int[8][8];
            for (int a = 0; a < 8; a++) {
                for (int b = 0; b < 8; b++) {
                    if (a != b && committed(a) && committed(b)) {
                        edges[a][b] = (isWW(a, b) ? 1 : 0) + (isWR(a, b) ? 2 : 0)
                                + (isRW(a, b) ? 4 : 0);
                    }
                }
            }
            found = new int[4][];
            for (int t = 0; t < 8; t++) {
                tryRows(new int[] {t});
            }
            firstOrder = null;
            beginnings = 0;
            tryOrders();
        }

        /** The writer of the version behind one in the order, or behind -1; else -1. */
        int nextWriter(int item, int version) {
            List<Integer> order = orders.get(item);
            int at = order.indexOf(version);
            if (version != -1 && at == -1 || at + 1 >= order.size()) {
                return -1;
            }
            return writes.get(order.get(at + 1)).t;
        }

        boolean isWW(int a, int b) {
            for (Act act : writes) {
                if (act.t == a && nextWriter(act.item, act.version) == b) {
                    return true;
                }
            }
            return false;
        }

        boolean isWR(int a, int b) {
            for (Act act : acts) {
                if (!act.writes && act.t == b && act.version != -1
                        && writes.get(act.version).t == a) {
                    return true;
                }
            }
            return false;
        }

        boolean isRW(int a, int b) {
            for (Act act : acts) {
                if (!act.writes && act.t == a && nextWriter(act.item, act.version) == b) {
                    return true;
                }
            }
            return false;
        }

        void tryRows(int[] row) {
            for (int kind = 0; kind < 4; kind++) {
                if (row.length >= 2 && isOfKind(row, kind) && isBetter(row, found[kind])) {
                    found[kind] = row;
                }
            }
            for (int t = row[0] + 1; t < 8; t++) {
                if (edges[row[row.length - 1]][t] != 0 && !contains(row, t)) {
                    int[] longer = Arrays.copyOf(row, row.length + 1);
                    longer[row.length] = t;
                    tryRows(longer);
                }
            }
        }

        static boolean contains(int[] row, int t) {
            for (int other : row) {
                if (other == t) {
                    return true;
                }
            }
            return false;
        }

        static boolean isBetter(int[] row, int[] than) {
            if (than == null || row.length != than.length) {
                return than == null || row.length < than.length;
            }
            return Arrays.compare(row, than) < 0;
        }

        int sorts(int[] row, int i) {
            return edges[row[i]][row[(i + 1) % row.length]];
        }

        /** Whether each edge of a row but one is of some sorts, and that one, if any, an RW. */
        boolean allBut(int[] row, int rw, int wanted) {
            for (int i = 0; i < row.length; i++) {
                if ((sorts(row, i) & (i == rw ? 4 : wanted)) == 0) {
                    return false;
                }
            }
            return true;
        }

        boolean isOfKind(int[] row, int kind) {
            if (kind < 2) {
                return allBut(row, -1, kind == 0 ? 1 : 3);
            }
            for (int i = 0; i < row.length; i++) {
                if (allBut(row, i, kind == 2 ? 3 : 7)) {
                    return true;
                }
            }
            return false;
        }

        void tryOrders() {
            List<Integer> all = new ArrayList<>();
            for (int t = 0; t < 8; t++) {
                if (committed(t)) {
                    all.add(t);
                }
            }
            if (all.isEmpty()) {
                firstOrder = new int[0];
            }
            for (int t : all) {
                int[] order = ended(new int[0], t, all.size(), new int[] {-1, -1, -1, -1, -1, -1});
                if (order != null) {
                    beginnings++;
                    firstOrder = firstOrder == null ? order : firstOrder;
                }
            }
        }

        /** The least serial order that begins with a row and then t; the latest versions are told. */
        int[] ended(int[] row, int t, int size, int[] latestBefore) {
            int[] latest = latestBefore.clone();
            for (Act act : acts) {
                if (act.t == t && act.writes) {
                    latest[act.item] = act.version;
                } else if (act.t == t && latest[act.item] != act.version) {
                    return null;
                }
            }
            int[] longer = Arrays.copyOf(row, row.length + 1);
            longer[row.length] = t;
            if (longer.length == size) {
                return longer;
            }
            for (int next = 0; next < 8; next++) {
                if (committed(next) && !contains(longer, next)) {
                    int[] order = ended(longer, next, size, latest);
                    if (order != null) {
                        return order;
                    }
                }
            }
            return null;
        }

        int flaws() {
            int sum = (found[0] != null ? 1 : 0) + (found[1] != null ? 8 : 0)
                    + (found[2] != null ? 16 : 0) + (found[3] != null ? 32 : 0);
            boolean aborted = false;
            boolean unfinished = false;
            for (Act act : acts) {
                if (!act.writes && committed(act.t) && act.version != -1) {
                    Act write = writes.get(act.version);
                    aborted |= !committed(write.t);
                    unfinished |= committed(write.t) && write.t != act.t && !isFinal(write);
                }
            }
            return sum + (aborted ? 2 : 0) + (unfinished ? 4 : 0);
        }

        int level() {
            int sum = flaws();
            return sum % 2 == 1 ? 0 : (sum & 14) != 0 ? 1 : (sum & 16) != 0 ? 2 : sum != 0 ? 3 : 4;
        }
    }

    private interface Answer {
        long get();
    }

    private static long answer(Answer call) {
        try {
            return call.get();
        } catch (IllegalArgumentException e) {
            return 1001;
        } catch (NoSuchElementException e) {
            return 1002;
        } catch (IllegalStateException e) {
            return 1003;
        } catch (UnsupportedOperationException e) {
            return 1004;
        } catch (RuntimeException e) {
            return 1005;
        }
    }

    /** One history told to both judges, with the calls so far, to show when they differ. */
    private static final class Pair {
        final CountedJudge quick = new CountedJudge();
        final SlowJudge slow = new SlowJudge();
        final StringBuilder told = new StringBuilder();
        boolean differs = false;

        void same(String call, long got, long want) {
            if (got != want) {
                wrong++;
                if (!differs) {
                    System.out.println(told);
                }
                differs = true;
                System.out.println("  " + call + " answered " + got + ", due is " + want);
            }
        }

        void write(int t, int item) {
            String call = "write(" + t + ", " + item + ")";
            same(call, answer(() -> quick.write(t, item)), answer(() -> slow.write(t, item)));
            told.append(call).append("; ");
        }

        void read(int t, int item, int version) {
            String call = "read(" + t + ", " + item + ", " + version + ")";
            same(call, answer(() -> quick.read(t, item, version)),
                    answer(() -> slow.read(t, item, version)));
            told.append(call).append("; ");
        }

        void end(int t, boolean commits) {
            String call = "end(" + t + ", " + commits + ")";
            same(call, answer(() -> {
                quick.end(t, commits);
                return 0;
            }), answer(() -> {
                slow.end(t, commits);
                return 0;
            }));
            told.append(call).append("; ");
        }

        void exchange(int item, int i) {
            String call = "exchange(" + item + ", " + i + ")";
            same(call, answer(() -> quick.exchange(item, i) ? 1 : 0),
                    answer(() -> slow.exchange(item, i) ? 1 : 0));
            told.append(call).append("; ");
        }

        void clear() {
            same("clear()", quick.clear(), slow.clear());
            told.append("clear(); ");
        }

        void compare() {
            slow.judge();
            for (int a = -1; a <= 8; a++) {
                boolean is = SlowJudge.inside(a, 8);
                same("state(" + a + ")", quick.state(a), is ? slow.states[a] : -1);
                for (int b = 0; b < 8; b++) {
                    same("edges(" + a + ", " + b + ")", quick.edges(a, b),
                            is ? slow.edges[a][b] : 0);
                }
            }
            for (int item = 0; item < 6; item++) {
                int size = slow.orders.get(item).size();
                for (int i = Math.max(0, size - 3); i <= size; i++) {
                    same("version(" + item + ", " + i + ")", quick.version(item, i),
                            slow.version(item, i));
                }
            }
            same("flaws()", quick.flaws(), slow.flaws());
            same("level()", quick.level(), slow.level());
            compareCycles();
            compareOrders();
            countAnswers();
        }

        private void compareCycles() {
            for (int kind = 0; kind < 4; kind++) {
                int[] row = slow.found[kind] == null ? new int[0] : slow.found[kind];
                same("cycle(" + kind + ")", quick.cycle(kind), row.length);
                for (int i = -1; i <= row.length; i++) {
                    same("step(" + kind + ", " + i + ")", quick.step(kind, i),
                            SlowJudge.inside(i, row.length) ? row[i] : -1);
                }
            }
        }

        private void compareOrders() {
            int[] order = slow.firstOrder == null ? new int[0] : slow.firstOrder;
            same("serial()", quick.serial() ? 1 : 0, slow.firstOrder != null ? 1 : 0);
            for (int i = -1; i <= order.length; i++) {
                same("place(" + i + ")", quick.place(i),
                        SlowJudge.inside(i, order.length) ? order[i] : -1);
            }
            same("beginnings()", quick.beginnings(), slow.beginnings);
        }

        private void countAnswers() {
            levels[slow.level()]++;
            for (int kind = 0; kind < 4; kind++) {
                if (slow.found[kind] != null) {
                    cyclesByKind[kind]++;
                    longCycles += slow.found[kind].length >= 4 ? 1 : 0;
                }
            }
            if (slow.firstOrder == null) {
                noSerials++;
            } else if (slow.firstOrder.length >= 4) {
                serials++;
                serialsWithCycle += slow.found[3] != null ? 1 : 0;
                severalBeginnings += slow.beginnings > 1 ? 1 : 0;
            }
        }
    }

    /** Any calls with any arguments, wrong ones now and then. */
    private static void tellAnything(Pair pair, Random random, int calls) {
        int ends = 3 + random.nextInt(30);
        for (int i = 0; i < calls; i++) {
            int t = random.nextInt(40) == 0 ? oddNumber(random, 8) : random.nextInt(8);
            int item = random.nextInt(40) == 0 ? oddNumber(random, 6) : random.nextInt(6);
            if (random.nextInt(ends) == 0) {
                pair.end(t, random.nextInt(6) != 0);
            } else if (random.nextInt(12) == 0) {
                pair.exchange(item, random.nextInt(10) == 0 ? oddNumber(random, 7)
                        : random.nextInt(4));
            } else if (random.nextInt(400) == 0) {
                pair.clear();
            } else if (random.nextBoolean()) {
                pair.write(t, item);
            } else {
                pair.read(t, item, someVersion(pair, random, item));
            }
        }
    }

    private static int oddNumber(Random random, int bound) {
        int[] odd = {-1, bound, bound + 1, -2, Integer.MAX_VALUE, Integer.MIN_VALUE};
        return odd[random.nextInt(odd.length)];
    }

    private static int someVersion(Pair pair, Random random, int item) {
        if (random.nextInt(20) == 0) {
            return random.nextInt(44) - 3;
        }
        List<Integer> all = new ArrayList<>();
        all.add(-1);
        for (Act act : pair.slow.writes) {
            if (act.item == item) {
                all.add(act.version);
            }
        }
        return all.get(random.nextInt(all.size()));
    }

    /** A few writes each, fewer reads: cycles are rare enough to be long. */
    private static void tellFew(Pair pair, Random random) {
        int writes = 6 + random.nextInt(14);
        int reads = random.nextInt(12);
        for (int i = 0; i < writes + reads; i++) {
            int item = random.nextInt(6);
            if (random.nextInt(writes + reads) < writes) {
                pair.write(random.nextInt(8), item);
            } else {
                pair.read(random.nextInt(8), item, someVersion(pair, random, item));
            }
        }
        endAll(pair, random, 30);
        for (int i = random.nextInt(4); i > 0; i--) {
            pair.exchange(random.nextInt(6), random.nextInt(3));
        }
    }

    private static void endAll(Pair pair, Random random, int abortsOneOf) {
        int from = random.nextInt(8);
        int stride = 2 * random.nextInt(4) + 1;
        for (int i = 0; i < 8; i++) {
            int t = (from + i * stride) % 8;
            if (pair.slow.states[t] == 1) {
                pair.end(t, random.nextInt(abortsOneOf) != 0);
            }
        }
    }

    /** As one order would have read it, but for a change now and then. */
    private static void tellSerial(Pair pair, Random random) {
        int from = random.nextInt(8);
        int stride = 2 * random.nextInt(4) + 1;
        int items = 1 + random.nextInt(6);
        int changes = 10 + random.nextInt(200);
        int[] latest = {-1, -1, -1, -1, -1, -1};
        for (int i = 0; i < 8; i++) {
            int t = (from + i * stride) % 8;
            for (int acts = 1 + random.nextInt(5); acts > 0; acts--) {
                int item = random.nextInt(items);
                if (random.nextInt(5) < 3) {
                    latest[item] = pair.slow.writes.size();
                    pair.write(t, item);
                } else if (random.nextInt(changes) == 0) {
                    pair.read(t, item, someVersion(pair, random, item));
                } else {
                    pair.read(t, item, latest[item]);
                }
            }
        }
        endAll(pair, random, 200);
        for (int i = random.nextInt(3); i > 0; i--) {
            pair.exchange(random.nextInt(6), random.nextInt(3));
        }
    }

    private static void dueOften(String what, int count) {
        System.out.println("  " + what + ": " + count);
        if (count < 20) {
            wrong++;
            System.out.println("  too seldom for a test");
        }
    }

    private static void checkCounts() {
        for (int kind = 0; kind < 4; kind++) {
            dueOften("cycles of kind " + kind, cyclesByKind[kind]);
        }
        for (int level = 0; level < 5; level++) {
            dueOften("level " + level, levels[level]);
        }
        dueOften("cycles of four and more", longCycles);
        dueOften("serial orders of four and more", serials);
        dueOften("such with a cycle", serialsWithCycle);
        dueOften("such with several beginnings", severalBeginnings);
        dueOften("no serial order", noSerials);
    }

    public static void main(String[] args) {
        Random random = new Random(20261115);
        for (int n = 0; n < HISTORIES && wrong < MOST_FAULTS; n++) {
            Pair pair = new Pair();
            if (n % 3 == 0) {
                tellAnything(pair, random, random.nextInt(130));
            } else if (n % 3 == 1) {
                tellFew(pair, random);
            } else {
                tellSerial(pair, random);
            }
            pair.compare();
            // What was asked and answered must not linger: the history goes on, and is asked again.
            tellAnything(pair, random, random.nextInt(MOST_CALLS_MORE));
            pair.compare();
        }
        checkCounts();
        System.out.println(wrong == 0 ? "all answers are the same" : wrong + " answers differ");
        if (wrong != 0) {
            System.exit(1);
        }
    }
}
