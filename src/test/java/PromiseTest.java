import java.util.NoSuchElementException;

/** At least one test for each promise of the document, by its number. */
public final class PromiseTest extends Checks {
    private static void dueNew(String what, CountedJudge x) {
        for (int t = 0; t < 8; t++) {
            due(what + ": state " + t, 0, x.state(t));
            for (int b = 0; b < 8; b++) {
                due(what + ": edges " + t + " " + b, 0, x.edges(t, b));
            }
        }
        for (int item = 0; item < 6; item++) {
            dueOrder(what + ": item " + item, x, item);
            due(what + ": exchange " + item, false, x.exchange(item, 0));
        }
        for (int kind = 0; kind < 4; kind++) {
            dueRow(what + ": kind " + kind, x, kind);
        }
        due(what + ": flaws", 0, x.flaws());
        due(what + ": level", 4, x.level());
        dueSerial(what, x, 0);
        dueThrow(what + ": no version 0", NoSuchElementException.class, x, y -> y.read(0, 0, 0));
        due(what + ": first read", 1, x.read(0, 0, -1));
        due(what + ": first write", 0, x.write(0, 0));
    }

    private static void promise1() {
        due("1: NONE", -1, HistoryJudge.NONE);
        dueNew("1: a new object", new CountedJudge());
        CountedJudge a = new CountedJudge();
        CountedJudge b = new CountedJudge();
        a.write(0, 0);
        due("1: objects are apart", 0, b.state(0));
        due("1: versions are apart", 0, b.write(0, 0));
    }

    private static void promise2() {
        CountedJudge x = new CountedJudge();
        due("2: first", 0, x.write(7, 5));
        due("2: of another item", 1, x.write(7, 0));
        due("2: by another one", 2, x.write(0, 5));
        due("2: of the same item again", 3, x.write(0, 5));
        due("2: makes it running", 1, x.state(7));
        due("2: others stay idle", 0, x.state(6));
        x.end(7, true);
        x.end(0, false);
        dueThrow("2: committed", IllegalStateException.class, x, y -> y.write(7, 5));
        dueThrow("2: aborted", IllegalStateException.class, x, y -> y.write(0, 5));
        for (int t : NO_TRANSACTIONS) {
            dueThrow("2: transaction " + t, IllegalArgumentException.class, x, y -> y.write(t, 0));
        }
        for (int item : NO_ITEMS) {
            dueThrow("2: item " + item, IllegalArgumentException.class, x, y -> y.write(1, item));
            dueThrow("2: item before state", IllegalArgumentException.class,
                    x, y -> y.write(7, item));
        }
        due("2: a call that throws makes nothing running", 0, x.state(1));
        for (int i = 4; i < 40; i++) {
            due("2: version " + i, i, x.write(i % 6 + 1, i % 6));
        }
        dueThrow("2: 40 versions", UnsupportedOperationException.class, x, y -> y.write(1, 0));
        dueThrow("2: state before limit", IllegalStateException.class, x, y -> y.write(0, 0));
        dueThrow("2: item before limit", IllegalArgumentException.class, x, y -> y.write(1, 6));
        due("2: reads are another limit", 1, x.read(1, 3, 39));
        due("2: clear after the limit", 40, x.clear());
        for (int i = 0; i < 40; i++) {
            x.write(0, 0);
        }
        dueThrow("2: refused", UnsupportedOperationException.class, x, y -> y.write(1, 0));
        due("2: a refused one stays idle", 0, x.state(1));
        due("2: a refused one is not counted", 40, x.clear());
    }

    private static void promise3() {
        CountedJudge x = new CountedJudge();
        due("3: first version", 1, x.read(0, 5, -1));
        due("3: makes it running", 1, x.state(0));
        x.write(1, 2);
        x.write(1, 3);
        due("3: of a running one", 2, x.read(2, 2, 0));
        due("3: its own", 3, x.read(1, 3, 1));
        due("3: the same again", 4, x.read(2, 2, 0));
        due("3: first version of a written item", 5, x.read(2, 2, -1));
        for (int v : new int[] {-2, 1, 2, 40, LEAST, GREATEST}) {
            dueThrow("3: version " + v, NoSuchElementException.class, x, y -> y.read(3, 2, v));
        }
        for (int t : NO_TRANSACTIONS) {
            dueThrow("3: transaction " + t, IllegalArgumentException.class, x, y -> y.read(t, 2, 0));
            dueThrow("3: transaction before version", IllegalArgumentException.class,
                    x, y -> y.read(t, 2, 9));
        }
        for (int item : NO_ITEMS) {
            dueThrow("3: item " + item, IllegalArgumentException.class,
                    x, y -> y.read(3, item, -1));
        }
        due("3: a call that throws makes nothing running", 0, x.state(3));
        x.end(1, false);
        x.end(0, true);
        dueThrow("3: aborted", IllegalStateException.class, x, y -> y.read(1, 2, 0));
        dueThrow("3: committed", IllegalStateException.class, x, y -> y.read(0, 2, 0));
        dueThrow("3: version before state", NoSuchElementException.class, x, y -> y.read(0, 2, 1));
        due("3: of an aborted one", 6, x.read(4, 2, 0));
        for (int i = 7; i <= 60; i++) {
            due("3: read " + i, i, x.read(4, 0, -1));
        }
        dueThrow("3: 60 reads", UnsupportedOperationException.class, x, y -> y.read(5, 0, -1));
        due("3: a refused one stays idle", 0, x.state(5));
        dueThrow("3: state before limit", IllegalStateException.class, x, y -> y.read(0, 0, -1));
        dueThrow("3: version before limit", NoSuchElementException.class, x, y -> y.read(5, 0, 0));
        due("3: versions are another limit", 2, x.write(5, 0));
        x.clear();
        due("3: after clear", 1, x.read(0, 0, -1));
    }

    private static void promise4() {
        CountedJudge x = new CountedJudge();
        for (int t : NO_TRANSACTIONS) {
            dueThrow("4: transaction " + t, IllegalArgumentException.class, x, y -> y.end(t, true));
        }
        dueThrow("4: idle commits", IllegalStateException.class, x, y -> y.end(0, true));
        dueThrow("4: idle aborts", IllegalStateException.class, x, y -> y.end(0, false));
        due("4: stays idle", 0, x.state(0));
        x.write(0, 0);
        x.read(1, 0, -1);
        x.end(0, true);
        x.end(1, false);
        due("4: committed", 2, x.state(0));
        due("4: aborted", 3, x.state(1));
        dueThrow("4: twice", IllegalStateException.class, x, y -> y.end(0, false));
        dueThrow("4: again", IllegalStateException.class, x, y -> y.end(1, true));
        due("4: stays committed", 2, x.state(0));
        due("4: stays aborted", 3, x.state(1));
        dueOrder("4: a commit puts into the order", x, 0, 0);
        x.write(2, 0);
        x.end(2, false);
        dueOrder("4: an abort does not", x, 0, 0);
    }

    private static void promise5() {
        CountedJudge x = new CountedJudge();
        due("5: idle", 0, x.state(7));
        x.read(7, 0, -1);
        x.write(0, 0);
        x.write(1, 0);
        due("5: running by a read", 1, x.state(7));
        due("5: running by a write", 1, x.state(0));
        x.end(0, true);
        x.end(1, false);
        due("5: committed", 2, x.state(0));
        due("5: aborted", 3, x.state(1));
        for (int t : NO_TRANSACTIONS) {
            due("5: transaction " + t, NONE, x.state(t));
        }
    }

    private static void promise6() {
        CountedJudge x = new CountedJudge();
        x.write(0, 5);
        x.write(1, 5);
        x.write(2, 5);
        x.write(0, 5);
        x.write(0, 0);
        x.write(3, 5);
        dueOrder("6: nothing committed", x, 5);
        x.end(1, true);
        x.end(0, true);
        x.end(2, false);
        dueOrder("6: by commits, final ones alone", x, 5, 1, 3);
        dueOrder("6: of another item", x, 0, 4);
        dueOrder("6: of an item not written", x, 1);
        for (int i : new int[] {-1, LEAST, GREATEST}) {
            due("6: version " + i, NONE, x.version(5, i));
        }
        for (int item : NO_ITEMS) {
            due("6: item " + item, NONE, x.version(item, 0));
        }
        CountedJudge y = new CountedJudge();
        for (int t = 0; t < 8; t++) {
            y.write(t, 0);
        }
        commit(y, 7, 6, 5, 4, 3, 2, 1, 0);
        dueOrder("6: eight", y, 0, 7, 6, 5, 4, 3, 2, 1, 0);
    }

    private static void promise7() {
        CountedJudge x = new CountedJudge();
        for (int t = 0; t < 4; t++) {
            x.write(t, 3);
        }
        x.write(0, 4);
        x.write(1, 4);
        due("7: nothing committed", false, x.exchange(3, 0));
        commit(x, 0);
        due("7: one alone", false, x.exchange(3, 0));
        commit(x, 1, 2);
        due("7: the last two", true, x.exchange(3, 1));
        dueOrder("7: exchanged", x, 3, 0, 2, 1);
        dueOrder("7: another item stays", x, 4, 4, 5);
        for (int i : new int[] {-1, 2, 3, LEAST, GREATEST}) {
            due("7: exchange " + i, false, x.exchange(3, i));
        }
        for (int item : NO_ITEMS) {
            due("7: item " + item, false, x.exchange(item, 0));
        }
        dueOrder("7: refused ones change nothing", x, 3, 0, 2, 1);
        due("7: the first two", true, x.exchange(3, 0));
        commit(x, 3);
        dueOrder("7: committed later, behind", x, 3, 2, 0, 1, 3);
        due("7: edges follow the order", 1, x.edges(1, 3));
        due("7: and the exchange", 1, x.edges(2, 0));
        due("7: not as before", 0, x.edges(0, 2));
        due("7: back", true, x.exchange(3, 0));
        dueOrder("7: twice is as before", x, 3, 0, 2, 1, 3);
    }

    private static void promise8() {
        CountedJudge x = new CountedJudge();
        x.write(0, 0);
        x.write(1, 0);
        x.write(2, 0);
        x.read(3, 0, -1);
        x.read(3, 0, 0);
        x.read(1, 0, 1);
        x.read(2, 0, 0);
        commit(x, 0, 1);
        due("8: WW", 1, x.edges(0, 1));
        due("8: no edge back", 0, x.edges(1, 0));
        due("8: not committed", 0, x.edges(0, 3));
        commit(x, 2, 3);
        due("8: not next", 2, x.edges(0, 2));
        due("8: RW of its own version, and WW", 5, x.edges(1, 2));
        due("8: WR", 2, x.edges(0, 3));
        due("8: RW of -1", 4, x.edges(3, 0));
        due("8: RW of a version", 4, x.edges(3, 1));
        due("8: RW back to where WW leads", 4, x.edges(2, 1));
        due("8: the same", 0, x.edges(1, 1));
        for (int t : NO_TRANSACTIONS) {
            due("8: to " + t, 0, x.edges(0, t));
            due("8: from " + t, 0, x.edges(t, 0));
        }
        promise8All();
        promise8Aborted();
    }

    private static void promise8All() {
        CountedJudge x = new CountedJudge();
        x.write(0, 0);
        x.write(1, 0);
        x.write(0, 1);
        x.read(1, 1, 2);
        x.read(0, 0, 0);
        commit(x, 0, 1);
        due("8: WW, WR and RW", 7, x.edges(0, 1));
        CountedJudge y = new CountedJudge();
        y.read(0, 0, -1);
        y.write(0, 0);
        y.write(1, 0);
        commit(y, 0, 1);
        due("8: the next of -1 is its own, and no other", 1, y.edges(0, 1));
    }

    private static void promise8Aborted() {
        CountedJudge x = new CountedJudge();
        x.write(0, 0);
        x.write(0, 0);
        x.write(1, 0);
        x.write(2, 0);
        x.read(3, 0, 0);
        x.read(3, 0, 2);
        x.read(1, 0, 0);
        commit(x, 0);
        x.end(1, false);
        commit(x, 2, 3);
        due("8: an aborted one is passed over", 1, x.edges(0, 2));
        due("8: from an aborted one", 0, x.edges(1, 3));
        due("8: to an aborted one", 0, x.edges(0, 1));
        due("8: WR of a version not final", 2, x.edges(0, 3));
        due("8: no RW of it, nor of an aborted one's", 0, x.edges(3, 2));
    }

    private static void promise9() {
        CountedJudge x = new CountedJudge();
        flow(x, 0, 0, 1);
        x.write(0, 0);
        due("9: nothing committed", 0, x.flaws());
        commit(x, 1);
        due("9: of a running one", 2, x.flaws());
        commit(x, 0);
        due("9: not final", 4, x.flaws());
        x.write(2, 1);
        x.read(3, 1, 2);
        x.read(3, 2, -1);
        x.end(2, false);
        due("9: the reader runs", 4, x.flaws());
        commit(x, 3);
        due("9: of an aborted one too", 6, x.flaws());
        CountedJudge own = new CountedJudge();
        own.write(0, 0);
        own.read(0, 0, 0);
        own.write(0, 0);
        due("9: running, its own", 0, own.flaws());
        commit(own, 0);
        due("9: its own, not final", 0, own.flaws());
        CountedJudge aborted = new CountedJudge();
        aborted.write(0, 0);
        aborted.read(1, 0, 0);
        aborted.end(0, false);
        aborted.end(1, false);
        due("9: an aborted one reads", 0, aborted.flaws());
        promise9Cycles();
    }

    private static void promise9Cycles() {
        CountedJudge ww = new CountedJudge();
        overwrite(ww, 0, 0, 1);
        overwrite(ww, 1, 0, 1);
        commit(ww, 0, 1);
        due("9: no cycle", 0, ww.flaws());
        ww.exchange(1, 0);
        due("9: WW and WW", 1 + 8, ww.flaws());
        CountedJudge wr = new CountedJudge();
        wr.write(0, 0);
        wr.write(1, 1);
        wr.read(0, 1, 1);
        wr.read(1, 0, 0);
        commit(wr, 0, 1);
        due("9: WR and WR", 8, wr.flaws());
        CountedJudge rw = new CountedJudge();
        overwrite(rw, 0, 0, 1);
        antiFlow(rw, 1, 1, 0);
        commit(rw, 0, 1);
        due("9: WW and RW", 16 + 32, rw.flaws());
        CountedJudge two = new CountedJudge();
        antiFlow(two, 0, 0, 1);
        antiFlow(two, 1, 1, 0);
        commit(two, 0);
        due("9: one of them runs", 0, two.flaws());
        commit(two, 1);
        due("9: RW and RW", 32, two.flaws());
    }

    private static void promise10() {
        CountedJudge x = new CountedJudge();
        due("10: nothing", 4, x.level());
        antiFlow(x, 0, 0, 1);
        antiFlow(x, 1, 1, 0);
        commit(x, 0, 1);
        due("10: kind 3", 3, x.level());
        overwrite(x, 2, 2, 3);
        antiFlow(x, 3, 3, 2);
        commit(x, 2, 3);
        due("10: kind 2", 2, x.level());
        x.write(4, 4);
        x.read(5, 4, x.write(4, 4) - 1);
        commit(x, 4, 5);
        due("10: not final", 1, x.level());
        overwrite(x, 5, 6, 7);
        overwrite(x, 2, 6, 7);
        commit(x, 6, 7);
        due("10: still", 1, x.level());
        x.exchange(5, 0);
        due("10: kind 0", 0, x.level());
        CountedJudge aborted = new CountedJudge();
        aborted.read(1, 0, aborted.write(0, 0));
        commit(aborted, 1);
        due("10: of a running one", 1, aborted.level());
        commit(aborted, 0);
        due("10: which then commits", 4, aborted.level());
        CountedJudge wr = new CountedJudge();
        wr.write(0, 0);
        wr.write(1, 1);
        wr.read(0, 1, 1);
        wr.read(1, 0, 0);
        commit(wr, 0, 1);
        due("10: kind 1", 1, wr.level());
    }

    private static void promise11() {
        CountedJudge x = new CountedJudge();
        for (int kind : NO_KINDS) {
            due("11: kind " + kind + ", new", 0, x.cycle(kind));
        }
        overwriteRead(x, 0, 0, 1);
        overwrite(x, 1, 0, 1);
        commit(x, 0);
        x.exchange(1, 0);
        due("11: one of them runs", 0, x.cycle(3));
        commit(x, 1);
        due("11: no way back", 0, x.cycle(3));
        x.exchange(1, 0);
        for (int kind = 0; kind < 4; kind++) {
            due("11: an edge of several sorts, kind " + kind, 2, x.cycle(kind));
        }
        for (int kind : NO_KINDS) {
            due("11: kind " + kind, 0, x.cycle(kind));
        }
        CountedJudge flows = new CountedJudge();
        flow(flows, 0, 3, 4);
        flow(flows, 1, 4, 5);
        flow(flows, 2, 5, 3);
        commit(flows, 3, 4, 5);
        int[] want = {0, 3, 0, 0};
        for (int kind = 0; kind < 4; kind++) {
            due("11: WR alone, kind " + kind, want[kind], flows.cycle(kind));
        }
        promise11Rings();
    }

    private static final int[] RING = {0, 5, 2, 7, 4, 1, 6, 3};

    /** WW along the ring from one place to another, by one item. */
    private static void writeAlong(CountedJudge x, int item, int from, int to) {
        for (int i = from; i <= to; i++) {
            x.write(RING[i], item);
        }
    }

    private static void promise11Rings() {
        CountedJudge ww = new CountedJudge();
        writeAlong(ww, 0, 0, 7);
        overwrite(ww, 1, 0, 3);
        commit(ww, RING);
        dueRow("11: a row, no ring", ww, 3);
        ww.exchange(1, 0);
        dueRow("11: WW round, kind 0", ww, 0, RING);
        dueRow("11: WW round, kind 1", ww, 1, RING);
        dueRow("11: WW round, kind 2", ww, 2);
        dueRow("11: WW round, kind 3", ww, 3);
        CountedJudge wr = new CountedJudge();
        writeAlong(wr, 0, 0, 7);
        flow(wr, 1, 3, 0);
        commit(wr, RING);
        dueRow("11: one WR, kind 0", wr, 0);
        dueRow("11: one WR, kind 1", wr, 1, RING);
        dueRow("11: one WR, kind 2", wr, 2);
        dueRow("11: one WR, kind 3", wr, 3);
        CountedJudge rw = new CountedJudge();
        writeAlong(rw, 0, 0, 7);
        antiFlow(rw, 1, 3, 0);
        commit(rw, RING);
        dueRow("11: one RW, kind 1", rw, 1);
        dueRow("11: one RW, kind 2", rw, 2, RING);
        dueRow("11: one RW, kind 3", rw, 3, RING);
        CountedJudge two = new CountedJudge();
        writeAlong(two, 0, 0, 3);
        writeAlong(two, 2, 4, 7);
        antiFlow(two, 3, RING[3], RING[4]);
        antiFlow(two, 1, 3, 0);
        commit(two, RING);
        dueRow("11: two RW, kind 1", two, 1);
        dueRow("11: two RW, kind 2", two, 2);
        dueRow("11: two RW, kind 3", two, 3, RING);
    }

    private static void promise12() {
        CountedJudge x = new CountedJudge();
        due("12: new", NONE, x.step(0, 0));
        for (int t = 0; t < 3; t++) {
            flow(x, t, t, (t + 1) % 3);
        }
        flow(x, 3, 7, 6);
        flow(x, 4, 6, 7);
        commit(x, 0, 1, 2, 6);
        dueRow("12: the only one", x, 1, 0, 1, 2);
        commit(x, 7);
        dueRow("12: the shorter one", x, 1, 6, 7);
        dueRow("12: of no kind 0", x, 0);
        for (int kind : NO_KINDS) {
            due("12: kind " + kind, NONE, x.step(kind, 0));
        }
        for (int i : new int[] {LEAST, -2, 3, 8, GREATEST}) {
            due("12: step " + i, NONE, x.step(1, i));
        }
        promise12Least();
        promise12Marks();
    }

    private static void promise12Least() {
        CountedJudge x = new CountedJudge();
        int v = x.write(0, 0);
        x.read(4, 0, v);
        x.read(5, 0, v);
        flow(x, 1, 4, 1);
        flow(x, 2, 1, 0);
        flow(x, 3, 5, 0);
        flow(x, 4, 6, 5);
        flow(x, 5, 5, 6);
        commit(x, 1, 4, 6);
        dueRow("12: nothing yet", x, 1);
        commit(x, 0);
        dueRow("12: not from its greater ones", x, 1, 0, 4, 1);
        commit(x, 5);
        dueRow("12: the least first one", x, 1, 0, 5);
        CountedJudge y = new CountedJudge();
        int w = y.write(0, 0);
        y.read(2, 0, w);
        y.read(3, 0, w);
        flow(y, 1, 2, 5);
        flow(y, 2, 5, 0);
        flow(y, 3, 3, 1);
        flow(y, 4, 1, 0);
        commit(y, 0, 1, 3);
        dueRow("12: it begins with its least one", y, 1, 0, 3, 1);
        commit(y, 2, 5);
        dueRow("12: the least second one", y, 1, 0, 2, 5);
        CountedJudge z = new CountedJudge();
        flow(z, 0, 0, 2);
        int shared = z.write(2, 1);
        z.read(4, 1, shared);
        z.read(3, 1, shared);
        flow(z, 2, 3, 0);
        flow(z, 3, 4, 0);
        commit(z, 0, 2, 4);
        dueRow("12: the only third one", z, 1, 0, 2, 4);
        commit(z, 3);
        dueRow("12: the least third one", z, 1, 0, 2, 3);
    }

    /** The least row is due, whichever of its edges is the RW that its kind asks for. */
    private static void promise12Marks() {
        CountedJudge x = new CountedJudge();
        overwriteRead(x, 0, 0, 1);
        antiFlow(x, 1, 1, 2);
        flow(x, 2, 2, 0);
        flow(x, 3, 1, 3);
        flow(x, 4, 3, 0);
        commit(x, 0, 1, 2, 3);
        due("12: WW and RW", 5, x.edges(0, 1));
        due("12: RW alone", 4, x.edges(1, 2));
        dueRow("12: the first edge as WW", x, 2, 0, 1, 2);
        CountedJudge y = new CountedJudge();
        overwriteRead(y, 0, 0, 1);
        flow(y, 1, 1, 2);
        flow(y, 2, 2, 0);
        antiFlow(y, 3, 1, 3);
        flow(y, 4, 3, 0);
        commit(y, 0, 1, 2, 3);
        dueRow("12: the first edge as RW", y, 2, 0, 1, 2);
        CountedJudge z = new CountedJudge();
        antiFlow(z, 0, 0, 1);
        antiFlow(z, 1, 1, 2);
        flow(z, 2, 2, 0);
        antiFlow(z, 3, 1, 3);
        overwrite(z, 4, 0, 3);
        flow(z, 5, 3, 1);
        commit(z, 0, 1, 2, 3);
        dueRow("12: two RW are one too many", z, 2, 1, 3);
        dueRow("12: and the same of kind 3", z, 3, 1, 3);
    }

    private static void promise13() {
        CountedJudge x = new CountedJudge();
        dueSerial("13: nothing", x, 0);
        x.read(0, 0, x.write(1, 0));
        dueSerial("13: running ones do not count", x, 0);
        commit(x, 0);
        dueNoSerial("13: of a running one", x);
        commit(x, 1);
        dueSerial("13: of a committed one", x, 1, 1, 0);
        CountedJudge aborted = new CountedJudge();
        flow(aborted, 0, 0, 1);
        aborted.end(0, false);
        commit(aborted, 1);
        dueNoSerial("13: of an aborted one", aborted);
        CountedJudge early = new CountedJudge();
        flow(early, 0, 0, 1);
        early.write(0, 0);
        commit(early, 0, 1);
        dueNoSerial("13: of a version not final", early);
        CountedJudge twice = new CountedJudge();
        twice.read(0, 0, -1);
        flow(twice, 0, 1, 0);
        commit(twice, 0, 1);
        dueNoSerial("13: two versions of one item", twice);
        CountedJudge lost = new CountedJudge();
        lost.read(0, 0, -1);
        lost.read(1, 0, -1);
        overwrite(lost, 0, 0, 1);
        commit(lost, 0, 1);
        dueNoSerial("13: both read first and write then", lost);
        promise13Own();
        promise13Blind();
    }

    private static void promise13Own() {
        CountedJudge x = new CountedJudge();
        x.read(0, 0, -1);
        x.read(0, 0, x.write(0, 0));
        x.read(0, 0, x.write(0, 0));
        commit(x, 0);
        dueSerial("13: its own latest ones", x, 1, 0);
        CountedJudge old = new CountedJudge();
        old.write(0, 0);
        old.write(0, 0);
        old.read(0, 0, 0);
        commit(old, 0);
        dueNoSerial("13: its own, not the latest", old);
        CountedJudge first = new CountedJudge();
        first.write(0, 0);
        first.read(0, 0, -1);
        commit(first, 0);
        dueNoSerial("13: -1 behind its own write", first);
        CountedJudge foreign = new CountedJudge();
        int version = foreign.write(0, 0);
        foreign.write(1, 0);
        foreign.read(1, 0, version);
        commit(foreign, 0, 1);
        dueNoSerial("13: another one's behind its own write", foreign);
        CountedJudge before = new CountedJudge();
        before.read(1, 0, before.write(0, 0));
        before.write(1, 0);
        commit(before, 0, 1);
        dueSerial("13: another one's before its own write", before, 1, 0, 1);
    }

    /** By its edges it has a cycle, but nobody reads what would tell that they were not apart. */
    private static void promise13Blind() {
        CountedJudge x = new CountedJudge();
        x.read(0, 0, -1);
        overwrite(x, 0, 1, 0);
        x.write(2, 0);
        commit(x, 1, 0, 2);
        due("13: a cycle", 2, x.cycle(2));
        dueSerial("13: and yet a serial order", x, 1, 0, 1, 2);
        CountedJudge y = new CountedJudge();
        flow(y, 0, 5, 4);
        y.write(3, 0);
        y.write(4, 0);
        commit(y, 3, 4, 5);
        dueSerial("13: a reader that writes too", y, 2, 3, 5, 4);
        CountedJudge z = new CountedJudge();
        flow(z, 0, 0, 3);
        z.write(1, 0);
        z.write(2, 1);
        commit(z, 0, 1, 2, 3);
        dueSerial("13: no writer between, but another one", z, 3, 0, 2, 3, 1);
    }

    private static void promise14() {
        CountedJudge x = new CountedJudge();
        due("14: new", NONE, x.place(0));
        for (int t = 7; t >= 0; t--) {
            x.write(t, 0);
            x.end(t, true);
        }
        dueSerial("14: all eight, blind", x, 8, 0, 1, 2, 3, 4, 5, 6, 7);
        for (int i : new int[] {LEAST, -2, 9, GREATEST}) {
            due("14: place " + i, NONE, x.place(i));
        }
        CountedJudge chain = new CountedJudge();
        chain.write(7, 0);
        chain.end(7, true);
        for (int t = 6; t >= 0; t--) {
            chain.read(t, 0, 6 - t);
            chain.write(t, 0);
            chain.end(t, true);
        }
        dueSerial("14: a chain", chain, 1, 7, 6, 5, 4, 3, 2, 1, 0);
        CountedJudge trap = new CountedJudge();
        trap.read(3, 0, -1);
        flow(trap, 1, 0, 3);
        flow(trap, 0, 1, 2);
        commit(trap, 0, 1, 2, 3);
        dueSerial("14: the least one is not always next", trap, 1, 0, 3, 1, 2);
        CountedJudge gap = new CountedJudge();
        gap.write(6, 1);
        gap.write(2, 1);
        gap.write(4, 1);
        gap.end(4, false);
        commit(gap, 6, 2);
        gap.exchange(1, 0);
        dueSerial("14: committed ones alone, and no matter the order", gap, 2, 2, 6);
    }

    private static void promise15() {
        CountedJudge x = new CountedJudge();
        due("15: new", 0, x.beginnings());
        x.read(0, 0, -1);
        x.read(1, 0, -1);
        x.write(2, 0);
        due("15: nothing committed", 0, x.beginnings());
        commit(x, 2);
        due("15: one", 1, x.beginnings());
        commit(x, 0);
        due("15: the reader of -1 alone", 1, x.beginnings());
        commit(x, 1);
        due("15: two readers of -1", 2, x.beginnings());
        x.write(3, 1);
        commit(x, 3);
        due("15: one that touches nothing of it", 3, x.beginnings());
        flow(x, 2, 4, 5);
        commit(x, 4, 5);
        due("15: the writer, not its reader", 4, x.beginnings());
        flow(x, 3, 6, 7);
        x.end(6, false);
        commit(x, 7);
        due("15: no order at all", 0, x.beginnings());
        CountedJudge dead = new CountedJudge();
        flow(dead, 0, 0, 1);
        antiFlow(dead, 1, 2, 0);
        flow(dead, 2, 3, 2);
        dead.write(3, 0);
        dead.write(4, 0);
        commit(dead, 0, 1, 2, 3, 4);
        dueSerial("15: a blind writer first, or last", dead, 2, 3, 2, 0, 1, 4);
    }

    private static void promise16() {
        CountedJudge x = new CountedJudge();
        due("16: new", 0, x.clear());
        x.read(0, 0, -1);
        due("16: reads do not count", 0, x.clear());
        for (int t = 0; t < 4; t++) {
            flow(x, 0, t, t + 4);
            flow(x, 1, t + 4, t);
        }
        x.end(3, false);
        commit(x, 0, 1, 2, 4, 5, 6);
        x.exchange(0, 1);
        due("16: versions", 8, x.clear());
        dueNew("16: after clear", x);
        due("16: counts anew", 1, x.clear());
        due("16: nothing left", 0, x.clear());
        overwrite(x, 0, 0, 1);
        commit(x, 0, 1);
        dueOrder("16: the exchange is forgotten", x, 0, 0, 1);
        due("16: edges anew", 1, x.edges(0, 1));
    }

    public static void main(String[] args) {
        promise1();
        promise2();
        promise3();
        promise4();
        promise5();
        promise6();
        promise7();
        promise8();
        promise9();
        promise10();
        promise11();
        promise12();
        promise13();
        promise14();
        promise15();
        promise16();
        close();
    }
}
