import java.util.NoSuchElementException;

/**
 * Calls that throw or are refused: each sentence of the document that names one, which exception is
 * the one when several would do, and that nothing is changed behind any of them.
 */
public final class RefusalTest extends Checks {
    private static final Class<?> ARGUMENT = IllegalArgumentException.class;
    private static final Class<?> MISSING = NoSuchElementException.class;
    private static final Class<?> STATE = IllegalStateException.class;
    private static final Class<?> LIMIT = UnsupportedOperationException.class;

    /** In the stories below. */
    private static final int COMMITTED = 0;
    private static final int ABORTED = 3;
    private static final int RUNNING = 4;
    private static final int IDLE = 5;
    private static final int OF_ITEM_5 = 3;
    private static final int VERSIONS = 8;
    private static final int READS = 7;

    private static void nothing(CountedJudge x) {
    }

    /** Some in every state, an order that was exchanged, and much that is seen only later. */
    private static void busy(CountedJudge x) {
        x.write(COMMITTED, 0);
        x.write(1, 0);
        x.write(2, 0);
        x.write(1, 5);
        x.read(COMMITTED, 5, -1);
        x.read(2, 0, 0);
        x.read(2, 5, OF_ITEM_5);
        x.end(COMMITTED, true);
        x.end(1, true);
        x.exchange(0, 0);
        x.write(ABORTED, 0);
        x.read(ABORTED, 5, OF_ITEM_5);
        x.end(ABORTED, false);
        x.write(RUNNING, 5);
        x.write(RUNNING, 5);
        x.read(RUNNING, 5, 5);
        x.read(7, 1, -1);
        x.write(7, 0);
        x.read(7, 0, 0);
    }

    private static void fullOfVersions(CountedJudge x) {
        busy(x);
        for (int i = VERSIONS; i < 40; i++) {
            x.write(i % 2 == 0 ? RUNNING : 2, i % 6);
        }
    }

    private static void fullOfReads(CountedJudge x) {
        busy(x);
        for (int i = READS; i < 60; i++) {
            x.read(i % 2 == 0 ? RUNNING : 7, i % 6, -1);
        }
    }

    private static void full(CountedJudge x) {
        fullOfVersions(x);
        for (int i = READS; i < 60; i++) {
            x.read(i % 2 == 0 ? RUNNING : 7, i % 6, -1);
        }
    }

    private static void dueRefused(String what, Story story, Class<?> want, Story call) {
        CountedJudge x = told(story);
        dueThrow(what, want, x, call);
        dueSame(what + " changes nothing", told(story), x);
    }

    private static void dueFalse(String what, Story story, int item, int i) {
        CountedJudge x = told(story);
        due(what, false, x.exchange(item, i));
        dueSame(what + " changes nothing", told(story), x);
    }

    private static void storiesAreAsNamed() {
        CountedJudge x = told(RefusalTest::busy);
        due("the committed one", 2, x.state(COMMITTED));
        due("the aborted one", 3, x.state(ABORTED));
        due("the running one", 1, x.state(RUNNING));
        due("the idle one", 0, x.state(IDLE));
        due("version " + OF_ITEM_5, OF_ITEM_5, x.version(5, 0));
        due("reads", READS + 1, x.read(RUNNING, 0, -1));
        due("versions", VERSIONS, x.clear());
    }

    private static void writeOfNoTransaction() {
        for (int t : NO_TRANSACTIONS) {
            dueRefused("2: write by " + t, RefusalTest::busy, ARGUMENT, x -> x.write(t, 0));
            dueRefused("2: write by " + t + ", new", RefusalTest::nothing, ARGUMENT,
                    x -> x.write(t, 0));
        }
        for (int t = 0; t < 8; t++) {
            due("2: write by " + t, 0, new CountedJudge().write(t, 0));
        }
    }

    private static void writeOfNoItem() {
        for (int item : NO_ITEMS) {
            dueRefused("2: write of " + item, RefusalTest::busy, ARGUMENT,
                    x -> x.write(RUNNING, item));
            dueRefused("2: write of " + item + " by an idle one", RefusalTest::busy, ARGUMENT,
                    x -> x.write(IDLE, item));
            dueRefused("2: write of " + item + " by none", RefusalTest::busy, ARGUMENT,
                    x -> x.write(item < 0 ? -1 : 8, item));
        }
        for (int item = 0; item < 6; item++) {
            due("2: write of " + item, 0, new CountedJudge().write(0, item));
        }
    }

    private static void writeByAnEndedOne() {
        dueRefused("2: write by a committed one", RefusalTest::busy, STATE,
                x -> x.write(COMMITTED, 0));
        dueRefused("2: write by a committed one, of an item it never wrote", RefusalTest::busy,
                STATE, x -> x.write(COMMITTED, 1));
        dueRefused("2: write by an aborted one", RefusalTest::busy, STATE,
                x -> x.write(ABORTED, 0));
    }

    private static void writeThe41st() {
        CountedJudge x = told(RefusalTest::busy);
        for (int i = VERSIONS; i < 39; i++) {
            x.write(RUNNING, i % 6);
        }
        due("2: the 40th version", 39, x.write(RUNNING, 0));
        dueThrow("2: the 41st version", LIMIT, x, y -> y.write(RUNNING, 0));
        for (int item = 0; item < 6; item++) {
            int asked = item;
            dueRefused("2: the 41st version, of " + item, RefusalTest::fullOfVersions, LIMIT,
                    y -> y.write(RUNNING, asked));
        }
        dueRefused("2: the 41st version, by an idle one", RefusalTest::fullOfVersions, LIMIT,
                y -> y.write(IDLE, 0));
        due("2: 40 versions leave room for reads", READS + 1,
                told(RefusalTest::fullOfVersions).read(IDLE, 3, 39));
        due("2: 60 reads leave room for versions", VERSIONS,
                told(RefusalTest::fullOfReads).write(IDLE, 0));
    }

    private static void writeNamesTheFirst() {
        dueRefused("2: no item, ended", RefusalTest::busy, ARGUMENT, x -> x.write(COMMITTED, 6));
        dueRefused("2: no item, aborted", RefusalTest::busy, ARGUMENT, x -> x.write(ABORTED, -1));
        dueRefused("2: no transaction, full", RefusalTest::full, ARGUMENT, x -> x.write(8, 0));
        dueRefused("2: no item, full", RefusalTest::full, ARGUMENT, x -> x.write(RUNNING, 6));
        dueRefused("2: committed, full", RefusalTest::full, STATE, x -> x.write(COMMITTED, 0));
        dueRefused("2: aborted, full", RefusalTest::full, STATE, x -> x.write(ABORTED, 0));
        dueRefused("2: no item, ended, full", RefusalTest::full, ARGUMENT,
                x -> x.write(COMMITTED, 6));
    }

    private static void readOfNoTransaction() {
        for (int t : NO_TRANSACTIONS) {
            dueRefused("3: read by " + t, RefusalTest::busy, ARGUMENT, x -> x.read(t, 0, 0));
            dueRefused("3: read by " + t + ", new", RefusalTest::nothing, ARGUMENT,
                    x -> x.read(t, 0, -1));
        }
        for (int t = 0; t < 8; t++) {
            due("3: read by " + t, 1, new CountedJudge().read(t, 0, -1));
        }
    }

    private static void readOfNoItem() {
        for (int item : NO_ITEMS) {
            dueRefused("3: read of " + item, RefusalTest::busy, ARGUMENT,
                    x -> x.read(RUNNING, item, -1));
            dueRefused("3: read of " + item + " by an idle one", RefusalTest::busy, ARGUMENT,
                    x -> x.read(IDLE, item, 0));
            dueRefused("3: read of " + item + " by none", RefusalTest::busy, ARGUMENT,
                    x -> x.read(item < 0 ? -1 : 8, item, -1));
        }
        for (int item = 0; item < 6; item++) {
            due("3: every item has a first version, " + item, 1,
                    new CountedJudge().read(0, item, -1));
        }
    }

    private static void readOfNoVersion() {
        int[] none = {OF_ITEM_5, VERSIONS, VERSIONS + 1, 39, 40, 41, -2, LEAST, GREATEST};
        for (int version : none) {
            dueRefused("3: read of version " + version + " of item 0", RefusalTest::busy, MISSING,
                    x -> x.read(RUNNING, 0, version));
            dueRefused("3: read of version " + version + " by an idle one", RefusalTest::busy,
                    MISSING, x -> x.read(IDLE, 0, version));
        }
        for (int version : new int[] {0, -2, LEAST, GREATEST}) {
            dueRefused("3: read of version " + version + ", new", RefusalTest::nothing, MISSING,
                    x -> x.read(0, 0, version));
        }
        for (int version : new int[] {40, 41}) {
            dueRefused("3: read of version " + version + " of 40", RefusalTest::fullOfVersions,
                    MISSING, x -> x.read(IDLE, 40 % 6, version));
        }
        for (int version = 0; version < VERSIONS; version++) {
            CountedJudge x = told(RefusalTest::busy);
            int asked = version;
            int item = version == OF_ITEM_5 || version == 5 || version == 6 ? 5 : 0;
            due("3: read of version " + version, READS + 1, x.read(IDLE, item, version));
            for (int other = 0; other < 6; other++) {
                int wrongItem = other;
                if (other != item) {
                    dueThrow("3: version " + version + " is not of " + other, MISSING, x,
                            y -> y.read(IDLE, wrongItem, asked));
                }
            }
        }
    }

    /** A version that was there is none once all is as at first. */
    private static void readOfAVersionBeforeClear() {
        CountedJudge x = told(RefusalTest::fullOfVersions);
        x.clear();
        for (int version = 0; version < 40; version++) {
            int asked = version;
            for (int item = 0; item < 6; item++) {
                int askedItem = item;
                dueThrow("3: version " + version + " from before clear", MISSING, x,
                        y -> y.read(0, askedItem, asked));
            }
        }
        due("3: first version behind clear", 1, x.read(0, 0, -1));
    }

    private static void readByAnEndedOne() {
        dueRefused("3: read by a committed one", RefusalTest::busy, STATE,
                x -> x.read(COMMITTED, 0, 0));
        dueRefused("3: read of the first version by a committed one", RefusalTest::busy, STATE,
                x -> x.read(COMMITTED, 1, -1));
        dueRefused("3: read by an aborted one", RefusalTest::busy, STATE,
                x -> x.read(ABORTED, 0, 0));
    }

    private static void readThe61st() {
        CountedJudge x = told(RefusalTest::busy);
        for (int i = READS + 1; i < 60; i++) {
            x.read(RUNNING, i % 6, -1);
        }
        due("3: the 60th read", 60, x.read(RUNNING, 0, -1));
        dueThrow("3: the 61st read", LIMIT, x, y -> y.read(RUNNING, 0, -1));
        for (int item = 0; item < 6; item++) {
            int asked = item;
            dueRefused("3: the 61st read, of " + item, RefusalTest::fullOfReads, LIMIT,
                    y -> y.read(RUNNING, asked, -1));
        }
        dueRefused("3: the 61st read, of a version", RefusalTest::fullOfReads, LIMIT,
                y -> y.read(7, 5, OF_ITEM_5));
        dueRefused("3: the 61st read, by an idle one", RefusalTest::fullOfReads, LIMIT,
                y -> y.read(IDLE, 0, -1));
    }

    private static void readNamesTheFirst() {
        dueRefused("3: no transaction, no version", RefusalTest::busy, ARGUMENT,
                x -> x.read(8, 0, OF_ITEM_5));
        dueRefused("3: no item, no version", RefusalTest::busy, ARGUMENT,
                x -> x.read(RUNNING, 6, -2));
        dueRefused("3: no item, ended", RefusalTest::busy, ARGUMENT,
                x -> x.read(COMMITTED, 6, -1));
        dueRefused("3: no item, aborted", RefusalTest::busy, ARGUMENT,
                x -> x.read(ABORTED, -1, -1));
        dueRefused("3: no transaction, full", RefusalTest::full, ARGUMENT, x -> x.read(-1, 0, 0));
        dueRefused("3: no item, full", RefusalTest::full, ARGUMENT, x -> x.read(RUNNING, 6, -1));
        dueRefused("3: no version, committed", RefusalTest::busy, MISSING,
                x -> x.read(COMMITTED, 0, OF_ITEM_5));
        dueRefused("3: no version, aborted", RefusalTest::busy, MISSING,
                x -> x.read(ABORTED, 0, VERSIONS));
        dueRefused("3: no version, full", RefusalTest::full, MISSING, x -> x.read(RUNNING, 0, 40));
        dueRefused("3: committed, full", RefusalTest::full, STATE, x -> x.read(COMMITTED, 0, 0));
        dueRefused("3: aborted, full", RefusalTest::full, STATE, x -> x.read(ABORTED, 0, -1));
        dueRefused("3: no version, ended, full", RefusalTest::full, MISSING,
                x -> x.read(COMMITTED, 0, OF_ITEM_5));
        dueRefused("3: no item, no version, ended, full", RefusalTest::full, ARGUMENT,
                x -> x.read(COMMITTED, 6, 40));
    }

    private static void endOfNoTransaction() {
        for (int t : NO_TRANSACTIONS) {
            for (boolean commits : new boolean[] {true, false}) {
                dueRefused("4: end of " + t, RefusalTest::busy, ARGUMENT, x -> x.end(t, commits));
                dueRefused("4: end of " + t + ", new", RefusalTest::nothing, ARGUMENT,
                        x -> x.end(t, commits));
            }
        }
        for (int t = 0; t < 8; t++) {
            CountedJudge x = new CountedJudge();
            x.write(t, 0);
            x.end(t, true);
            due("4: end of " + t, 2, x.state(t));
        }
    }

    private static void endOfOneThatDoesNotRun() {
        for (boolean commits : new boolean[] {true, false}) {
            dueRefused("4: end of an idle one", RefusalTest::busy, STATE,
                    x -> x.end(IDLE, commits));
            dueRefused("4: end of an idle one, new", RefusalTest::nothing, STATE,
                    x -> x.end(0, commits));
            dueRefused("4: end of a committed one", RefusalTest::busy, STATE,
                    x -> x.end(COMMITTED, commits));
            dueRefused("4: end of an aborted one", RefusalTest::busy, STATE,
                    x -> x.end(ABORTED, commits));
        }
    }

    private static void exchangeOfNoTwo() {
        for (int item : NO_ITEMS) {
            dueFalse("7: exchange in " + item, RefusalTest::busy, item, 0);
        }
        for (int i : new int[] {-1, 1, 2, 3, LEAST, GREATEST}) {
            dueFalse("7: exchange of " + i + " of two", RefusalTest::busy, 0, i);
        }
        for (int i : new int[] {-1, 0, 1, LEAST, GREATEST}) {
            dueFalse("7: exchange of " + i + " of one", RefusalTest::busy, 5, i);
            dueFalse("7: exchange of " + i + " of none", RefusalTest::busy, 1, i);
            dueFalse("7: exchange of " + i + ", new", RefusalTest::nothing, 0, i);
        }
        CountedJudge x = told(RefusalTest::busy);
        due("7: exchange of the only two", true, x.exchange(0, 0));
        dueOrder("7: the only two", x, 0, 0, 1);
    }

    /** The 41st and the 61st, and all that ends behind them, as though they had never been asked. */
    private static void manyRefusedInARow() {
        CountedJudge x = told(RefusalTest::full);
        for (int i = 0; i < 10; i++) {
            int item = i % 6;
            dueThrow("2: once more", LIMIT, x, y -> y.write(RUNNING, item));
            dueThrow("3: once more", LIMIT, x, y -> y.read(RUNNING, item, -1));
        }
        dueSame("2 and 3: many refused in a row", told(RefusalTest::full), x);
    }

    public static void main(String[] args) {
        storiesAreAsNamed();
        writeOfNoTransaction();
        writeOfNoItem();
        writeByAnEndedOne();
        writeThe41st();
        writeNamesTheFirst();
        readOfNoTransaction();
        readOfNoItem();
        readOfNoVersion();
        readOfAVersionBeforeClear();
        readByAnEndedOne();
        readThe61st();
        readNamesTheFirst();
        endOfNoTransaction();
        endOfOneThatDoesNotRun();
        exchangeOfNoTwo();
        manyRefusedInARow();
        close();
    }
}
