/**
 * The boundary cases that the document names for what it answers: too small and too large, empty
 * and full, the first and the last place, and which one it is of several. Calls that throw or are
 * refused stand in RefusalTest.
 */
public final class BoundaryTest extends Checks {
    private static final int[] ALL = {0, 1, 2, 3, 4, 5, 6, 7};
    private static final int[] NO_PLACES = {-1, -2, LEAST, GREATEST};

    // ---- Terms ----

    private static void aTransactionRunsFromItsFirstWriteOrRead() {
        for (int t = 0; t < 8; t++) {
            CountedJudge x = new CountedJudge();
            due("terms: idle at first, " + t, 0, x.state(t));
            x.write(t, 0);
            due("terms: its first write, " + t, 1, x.state(t));
            x.write(t, 0);
            x.read(t, 0, -1);
            due("terms: still runs, " + t, 1, x.state(t));
            x.end(t, true);
            due("terms: committed, " + t, 2, x.state(t));
            CountedJudge y = new CountedJudge();
            y.read(t, 5, -1);
            due("terms: its first read, " + t, 1, y.state(t));
            y.end(t, false);
            due("terms: aborted, " + t, 3, y.state(t));
        }
    }

    private static void versionsAreNumberedAsTheyAreMade() {
        CountedJudge x = new CountedJudge();
        for (int i = 0; i < 40; i++) {
            int t = i / 5;
            due("terms: version of any item, by any one", i, x.write(t, i % 6));
            if (i % 5 == 4) {
                x.end(t, t % 2 == 0);
            }
        }
        due("terms: those of aborted ones count", 40, x.clear());
    }

    private static void readsAreCountedOverAll() {
        CountedJudge x = new CountedJudge();
        for (int i = 0; i < 60; i++) {
            int t = i / 8;
            due("terms: read of any item, by any one", i + 1, x.read(t, i % 6, -1));
            if (i % 8 == 7) {
                x.end(t, t % 2 == 0);
            }
        }
    }

    private static void theFirstVersionIsWrittenByNobody() {
        CountedJudge x = new CountedJudge();
        for (int t = 0; t < 8; t++) {
            x.read(t, t % 6, -1);
            x.end(t, true);
        }
        for (int a = 0; a < 8; a++) {
            for (int b = 0; b < 8; b++) {
                due("terms: readers of -1 have no edges", 0, x.edges(a, b));
            }
        }
        due("terms: -1 is no aborted one's", 0, x.flaws());
        dueOrder("terms: -1 has no place in the order", x, 0);
        dueSerial("terms: readers of -1 stand anywhere", x, 8, ALL);
    }

    private static void minusOneComesBeforeAllOfTheOrder() {
        CountedJudge x = new CountedJudge();
        x.read(5, 0, -1);
        overwrite(x, 0, 2, 1);
        commit(x, 5, 1);
        due("terms: next of -1, when one is committed", 4, x.edges(5, 1));
        commit(x, 2);
        due("terms: next of -1 is the first by commit", 4, x.edges(5, 1));
        due("terms: and none behind it", 0, x.edges(5, 2));
        x.exchange(0, 0);
        due("terms: next of -1 when exchanged", 4, x.edges(5, 2));
        due("terms: and no more the other one", 0, x.edges(5, 1));
    }

    private static void aVersionIsFinalWhenItsItemIsWrittenNoMore() {
        CountedJudge x = new CountedJudge();
        x.write(0, 0);
        x.write(0, 0);
        x.write(0, 0);
        x.write(0, 1);
        x.write(1, 0);
        x.read(2, 0, 2);
        x.read(2, 1, 3);
        commit(x, 0, 2);
        dueOrder("terms: the last of three", x, 0, 2);
        dueOrder("terms: another item's", x, 1, 3);
        due("terms: a write of another item, or by another one, does not matter", 0, x.flaws());
        x.read(3, 0, 1);
        commit(x, 3);
        due("terms: the one before the last", 4, x.flaws());
        CountedJudge y = new CountedJudge();
        y.read(1, 0, y.write(0, 0));
        y.write(0, 0);
        y.end(1, true);
        y.end(0, true);
        due("terms: written again behind the read", 4, y.flaws());
    }

    private static void theOrderIsByCommitsNotByWrites() {
        CountedJudge x = new CountedJudge();
        for (int t = 0; t < 8; t++) {
            x.write(t, 2);
        }
        commit(x, 3, 0);
        x.end(7, false);
        commit(x, 5);
        dueOrder("terms: by commits", x, 2, 3, 0, 5);
        due("terms: next of the first", 1, x.edges(3, 0));
        due("terms: next of the second", 1, x.edges(0, 5));
        due("terms: not next", 0, x.edges(3, 5));
        due("terms: not back", 0, x.edges(5, 0));
    }

    /** The last of the order has no next one, so a reader of it leads nowhere. */
    private static void theLastVersionHasNoNextOne() {
        CountedJudge x = new CountedJudge();
        overwrite(x, 0, 0, 1);
        x.read(2, 0, 1);
        commit(x, 0, 1, 2);
        for (int t = 0; t < 8; t++) {
            due("terms: reader of the last one, to " + t, 0, x.edges(2, t));
            due("terms: writer of the last one, to " + t, t == 2 ? 2 : 0, x.edges(1, t));
        }
    }

    private static void whatRunsCountsAsAborted() {
        CountedJudge x = new CountedJudge();
        flow(x, 0, 0, 1);
        antiFlow(x, 1, 0, 1);
        x.write(0, 2);
        x.read(1, 2, 2);
        x.end(1, true);
        due("terms: read of one that runs", 2, x.flaws());
        due("terms: level of it", 1, x.level());
        dueNoSerial("terms: read of one that runs", x);
        CountedJudge y = told(z -> {
            flow(z, 0, 0, 1);
            antiFlow(z, 1, 0, 1);
            z.write(0, 2);
            z.read(1, 2, 2);
            z.end(1, true);
            z.end(0, false);
        });
        due("terms: read of one that has aborted", 2, y.flaws());
        due("terms: level of that", 1, y.level());
        dueNoSerial("terms: read of one that has aborted", y);
        x.end(0, true);
        due("terms: read of one that has committed since", 0, x.flaws());
        dueSerial("terms: read of one that has committed since", x, 1, 0, 1);
    }

    // ---- 5: state ----

    private static void stateOfNoTransaction() {
        CountedJudge x = new CountedJudge();
        for (int t : NO_TRANSACTIONS) {
            due("5: state of " + t + ", new", NONE, x.state(t));
        }
        for (int t = 0; t < 8; t++) {
            x.write(t, 0);
        }
        commit(x, 0, 7);
        for (int t : NO_TRANSACTIONS) {
            due("5: state of " + t, NONE, x.state(t));
        }
        due("5: state of 0", 2, x.state(0));
        due("5: state of 7", 2, x.state(7));
    }

    // ---- 6: version ----

    private static void versionOfNoItem() {
        CountedJudge x = new CountedJudge();
        for (int item = 0; item < 6; item++) {
            x.write(0, item);
        }
        commit(x, 0);
        for (int item : NO_ITEMS) {
            due("6: version 0 of " + item, NONE, x.version(item, 0));
        }
        for (int item = 0; item < 6; item++) {
            due("6: version 0 of " + item, item, x.version(item, 0));
        }
    }

    private static void versionInAnEmptyOrder() {
        CountedJudge x = new CountedJudge();
        dueOrder("6: new", x, 0);
        x.read(0, 0, -1);
        x.write(1, 0);
        x.write(2, 0);
        dueOrder("6: only running ones", x, 0);
        x.end(1, false);
        dueOrder("6: only an aborted one", x, 0);
        x.end(0, true);
        dueOrder("6: only a reader", x, 0);
        for (int i : NO_PLACES) {
            due("6: version " + i + " of none", NONE, x.version(0, i));
        }
    }

    private static void versionAtTheLastPlaceAndBehind() {
        CountedJudge x = new CountedJudge();
        for (int t = 0; t < 8; t++) {
            due("6: behind the last of " + t, NONE, x.version(4, t));
            x.write(t, 4);
            x.end(t, true);
            due("6: the first of " + (t + 1), 0, x.version(4, 0));
            due("6: the last of " + (t + 1), t, x.version(4, t));
        }
        for (int i : new int[] {8, 9, 39, 40, -1, -2, LEAST, GREATEST}) {
            due("6: version " + i + " of eight", NONE, x.version(4, i));
        }
    }

    // ---- 7: exchange ----

    private static void exchangeOfTheFirstAndTheLastTwo() {
        CountedJudge x = new CountedJudge();
        for (int t = 0; t < 8; t++) {
            x.write(t, 1);
        }
        commit(x, ALL);
        due("7: the first two of eight", true, x.exchange(1, 0));
        due("7: the last two of eight", true, x.exchange(1, 6));
        for (int i : new int[] {7, 8, -1, LEAST, GREATEST}) {
            due("7: exchange of " + i + " of eight", false, x.exchange(1, i));
        }
        dueOrder("7: exchanged at both ends", x, 1, 1, 0, 2, 3, 4, 5, 7, 6);
        due("7: the new first two", 1, x.edges(1, 0));
        due("7: across the first two", 1, x.edges(0, 2));
        due("7: across the last two", 1, x.edges(5, 7));
        due("7: the new last two", 1, x.edges(7, 6));
        due("7: no more the first two", 0, x.edges(0, 1));
        due("7: no more the last two", 0, x.edges(6, 7));
    }

    private static void exchangeMovesOneItemAlone() {
        CountedJudge x = new CountedJudge();
        for (int item = 0; item < 6; item++) {
            overwrite(x, item, 0, 1);
        }
        commit(x, 0, 1);
        due("7: exchange", true, x.exchange(5, 0));
        dueOrder("7: exchanged", x, 5, 11, 10);
        for (int item = 0; item < 5; item++) {
            dueOrder("7: item " + item + " stays", x, item, 2 * item, 2 * item + 1);
        }
    }

    private static void whatIsCommittedLaterComesBehind() {
        CountedJudge x = new CountedJudge();
        for (int t = 0; t < 4; t++) {
            x.write(t, 0);
        }
        commit(x, 2, 1);
        due("7: exchange of two", true, x.exchange(0, 0));
        commit(x, 3);
        dueOrder("7: one committed later", x, 0, 1, 2, 3);
        due("7: exchange with the later one", true, x.exchange(0, 1));
        commit(x, 0);
        dueOrder("7: two committed later", x, 0, 1, 3, 2, 0);
        due("7: the edge to the later one", 1, x.edges(2, 0));
    }

    private static void exchangeDoesNotMatterToSerialOrders() {
        CountedJudge x = new CountedJudge();
        x.write(0, 0);
        x.read(1, 0, 0);
        x.write(1, 0);
        x.read(2, 0, 1);
        commit(x, 0, 1, 2);
        dueSerial("7: before the exchange", x, 1, 0, 1, 2);
        due("7: no flaw before it", 0, x.flaws());
        x.exchange(0, 0);
        dueSerial("7: behind the exchange", x, 1, 0, 1, 2);
        due("7: WW back, WR on", 8 + 16 + 32, x.flaws());
    }

    // ---- 8: edges ----

    /** Edges of all sorts between 0 and 1, both ways, whatever becomes of the two. */
    private static CountedJudge entangled(boolean commits0, boolean commits1) {
        CountedJudge x = new CountedJudge();
        overwriteRead(x, 0, 0, 1);
        overwriteRead(x, 1, 1, 0);
        flow(x, 2, 0, 1);
        flow(x, 3, 1, 0);
        x.end(0, commits0);
        x.end(1, commits1);
        if (commits0 && commits1) {
            x.exchange(1, 0);
        }
        return x;
    }

    private static void edgesOfOneNotCommitted() {
        CountedJudge both = entangled(true, true);
        due("8: all sorts", 7, both.edges(0, 1));
        due("8: all sorts back", 7, both.edges(1, 0));
        due("8: to an idle one", 0, both.edges(0, 2));
        due("8: from an idle one", 0, both.edges(2, 0));
        CountedJudge one = entangled(true, false);
        due("8: to an aborted one", 0, one.edges(0, 1));
        due("8: from an aborted one", 0, one.edges(1, 0));
        CountedJudge none = entangled(false, false);
        due("8: between aborted ones", 0, none.edges(0, 1));
        CountedJudge runs = new CountedJudge();
        flow(runs, 0, 0, 1);
        antiFlow(runs, 1, 0, 1);
        due("8: both run", 0, runs.edges(0, 1));
        runs.end(0, true);
        due("8: to one that runs", 0, runs.edges(0, 1));
        due("8: from one that runs", 0, runs.edges(1, 0));
        runs.end(1, true);
        due("8: none runs", 6, runs.edges(0, 1));
    }

    private static void edgesOfTheSame() {
        CountedJudge x = entangled(true, true);
        for (int t = 0; t < 8; t++) {
            due("8: from " + t + " to itself", 0, x.edges(t, t));
        }
        CountedJudge own = new CountedJudge();
        own.read(0, 0, -1);
        own.read(0, 0, own.write(0, 0));
        own.write(0, 0);
        own.read(0, 0, 0);
        own.read(0, 0, 1);
        commit(own, 0);
        due("8: one's own versions", 0, own.edges(0, 0));
        dueRow("8: no row of one, kind 1", own, 1);
        dueRow("8: no row of one, kind 3", own, 3);
    }

    private static void edgesOfNoTransaction() {
        CountedJudge x = entangled(true, true);
        for (int none : NO_TRANSACTIONS) {
            for (int t = 0; t < 2; t++) {
                due("8: from " + t + " to " + none, 0, x.edges(t, none));
                due("8: from " + none + " to " + t, 0, x.edges(none, t));
            }
            for (int other : NO_TRANSACTIONS) {
                due("8: from " + none + " to " + other, 0, x.edges(none, other));
            }
        }
        CountedJudge ends = new CountedJudge();
        overwrite(ends, 5, 0, 7);
        commit(ends, 0, 7);
        due("8: from the first to the last transaction", 1, ends.edges(0, 7));
        due("8: not back", 0, ends.edges(7, 0));
    }

    private static void eachSortAlone() {
        CountedJudge x = new CountedJudge();
        overwrite(x, 0, 0, 1);
        flow(x, 1, 2, 3);
        antiFlow(x, 2, 4, 5);
        commit(x, 0, 1, 2, 3, 4, 5);
        due("8: WW", 1, x.edges(0, 1));
        due("8: WR", 2, x.edges(2, 3));
        due("8: RW", 4, x.edges(4, 5));
    }

    private static void edgesOfAVersionNotFinal() {
        CountedJudge x = new CountedJudge();
        flow(x, 0, 0, 2);
        x.write(0, 0);
        x.write(1, 0);
        commit(x, 0, 1, 2);
        due("8: WR of a version that is not final", 2, x.edges(0, 2));
        due("8: it is not in the order, so it has no next one", 0, x.edges(2, 1));
        due("8: nor does its own writer overwrite it", 0, x.edges(2, 0));
    }

    private static void edgesPassOverAnAbortedOne() {
        CountedJudge x = new CountedJudge();
        x.write(0, 0);
        x.read(3, 0, 0);
        x.write(1, 0);
        x.read(3, 0, 1);
        x.write(2, 0);
        x.end(0, true);
        x.end(1, false);
        x.end(2, true);
        x.end(3, true);
        due("8: WW to the next one committed", 1, x.edges(0, 2));
        due("8: RW to the next one committed", 4, x.edges(3, 2));
        due("8: WR of the committed one", 2, x.edges(0, 3));
        due("8: none of the aborted one", 0, x.edges(1, 3));
        due("8: none to the aborted one", 0, x.edges(3, 1));
    }

    // ---- 9 and 10: flaws, level ----

    private static void eachFlawByItself() {
        dueFlaws("9: new", new CountedJudge(), 0, 4);
        dueFlaws("9: WW round", told(BoundaryTest::roundOfWW), 1 + 8, 0);
        dueFlaws("9: of an aborted one", told(BoundaryTest::readOfAnAbortedOne), 2, 1);
        dueFlaws("9: not final", told(BoundaryTest::readOfOneNotFinal), 4, 1);
        dueFlaws("9: WR round", told(BoundaryTest::roundOfWR), 8, 1);
        dueFlaws("9: RW and WW round", told(BoundaryTest::roundOfOneRW), 16 + 32, 2);
        dueFlaws("9: RW round", told(BoundaryTest::roundOfRW), 32, 3);
    }

    private static void dueFlaws(String what, CountedJudge x, int flaws, int level) {
        due(what + ": flaws", flaws, x.flaws());
        due(what + ": level", level, x.level());
    }

    private static void roundOfWW(CountedJudge x) {
        overwrite(x, 0, 6, 7);
        overwrite(x, 1, 6, 7);
        commit(x, 6, 7);
        x.exchange(1, 0);
    }

    private static void readOfAnAbortedOne(CountedJudge x) {
        flow(x, 2, 0, 1);
        x.end(0, false);
        x.end(1, true);
    }

    private static void readOfOneNotFinal(CountedJudge x) {
        flow(x, 3, 2, 3);
        x.write(2, 3);
        commit(x, 2, 3);
    }

    private static void roundOfWR(CountedJudge x) {
        flow(x, 0, 6, 7);
        flow(x, 1, 7, 6);
        commit(x, 6, 7);
    }

    private static void roundOfOneRW(CountedJudge x) {
        antiFlow(x, 4, 4, 5);
        overwrite(x, 5, 5, 4);
        commit(x, 5, 4);
    }

    private static void roundOfRW(CountedJudge x) {
        antiFlow(x, 4, 4, 5);
        antiFlow(x, 5, 5, 4);
        commit(x, 5, 4);
    }

    /** The levels hold whatever lesser flaws there are besides. */
    private static void levelsWithLesserFlaws() {
        CountedJudge x = told(BoundaryTest::roundOfOneRW);
        readOfAnAbortedOne(x);
        dueFlaws("10: 2 with 16 and 32", x, 2 + 16 + 32, 1);
        readOfOneNotFinal(x);
        dueFlaws("10: 2 and 4 with 16 and 32", x, 2 + 4 + 16 + 32, 1);
        roundOfWW(x);
        dueFlaws("9: all of them", x, 63, 0);
        CountedJudge y = told(BoundaryTest::roundOfRW);
        readOfOneNotFinal(y);
        dueFlaws("10: 4 with 32", y, 4 + 32, 1);
        CountedJudge z = told(BoundaryTest::roundOfRW);
        roundOfWR(z);
        dueFlaws("10: 8 with 32", z, 8 + 32, 1);
        CountedJudge ww = told(BoundaryTest::roundOfWW);
        readOfAnAbortedOne(ww);
        dueFlaws("10: 1 and 8 with 2", ww, 1 + 2 + 8, 0);
    }

    private static void readsThatAreNoFlaw() {
        CountedJudge x = new CountedJudge();
        x.write(0, 0);
        x.read(0, 0, 0);
        x.write(0, 0);
        x.read(0, 0, 1);
        x.read(0, 1, -1);
        commit(x, 0);
        dueFlaws("9: one's own, not final", x, 0, 4);
        flow(x, 1, 1, 2);
        x.write(1, 1);
        x.end(1, true);
        dueFlaws("9: the reader runs", x, 0, 4);
        x.end(2, false);
        dueFlaws("9: the reader aborts", x, 0, 4);
        flow(x, 2, 3, 4);
        x.end(3, false);
        x.end(4, false);
        dueFlaws("9: both abort", x, 0, 4);
        flow(x, 3, 5, 6);
        x.write(5, 3);
        x.end(6, true);
        dueFlaws("9: not final, but of one that runs", x, 2, 1);
        x.end(5, false);
        dueFlaws("9: not final, but of one that aborts", x, 2, 1);
    }

    // ---- 11 and 12: cycle, step ----

    private static void noCycle() {
        CountedJudge x = new CountedJudge();
        for (int kind = 0; kind < 4; kind++) {
            dueRow("11: new, kind " + kind, x, kind);
        }
        overwriteRead(x, 0, 0, 1);
        flow(x, 1, 1, 2);
        antiFlow(x, 2, 0, 2);
        commit(x, 0, 1, 2);
        for (int kind = 0; kind < 4; kind++) {
            dueRow("11: no way back, kind " + kind, x, kind);
            for (int i : NO_PLACES) {
                due("12: no way back, step " + i, NONE, x.step(kind, i));
            }
        }
    }

    private static void noSuchKind() {
        CountedJudge x = told(BoundaryTest::roundOfWW);
        roundOfOneRW(x);
        for (int kind : NO_KINDS) {
            due("11: cycle of kind " + kind, 0, x.cycle(kind));
            for (int i = -1; i < 3; i++) {
                due("12: step " + i + " of kind " + kind, NONE, x.step(kind, i));
            }
        }
        dueRow("11: the first kind", x, 0, 6, 7);
        dueRow("11: the last kind", x, 3, 4, 5);
    }

    private static void placesOfAStep() {
        CountedJudge x = told(BoundaryTest::roundOfWW);
        for (int i : NO_PLACES) {
            due("12: step " + i + " of two", NONE, x.step(0, i));
        }
        due("12: the first of two", 6, x.step(0, 0));
        due("12: the last of two", 7, x.step(0, 1));
        for (int i : new int[] {2, 3, 7, 8}) {
            due("12: step " + i + " of two", NONE, x.step(0, i));
        }
    }

    /** Each kind by two transactions, the first and the last one. */
    private static void cyclesOfTwo() {
        CountedJudge ww = new CountedJudge();
        overwrite(ww, 0, 7, 0);
        overwrite(ww, 1, 7, 0);
        commit(ww, 7, 0);
        ww.exchange(0, 0);
        dueKinds("11: two, WW and WW", ww, true, true, false, false, 0, 7);
        CountedJudge wr = new CountedJudge();
        flow(wr, 0, 7, 0);
        overwrite(wr, 1, 0, 7);
        commit(wr, 0, 7);
        dueKinds("11: two, WW and WR", wr, false, true, false, false, 0, 7);
        CountedJudge rw = new CountedJudge();
        antiFlow(rw, 0, 7, 0);
        flow(rw, 1, 0, 7);
        commit(rw, 7, 0);
        dueKinds("11: two, WR and RW", rw, false, false, true, true, 0, 7);
        CountedJudge two = new CountedJudge();
        antiFlow(two, 0, 7, 0);
        antiFlow(two, 1, 0, 7);
        commit(two, 7, 0);
        dueKinds("11: two, RW and RW", two, false, false, false, true, 0, 7);
        dueKinds("11: two, all sorts", entangled(true, true), true, true, true, true, 0, 1);
    }

    private static void dueKinds(String what, CountedJudge x, boolean kind0, boolean kind1,
            boolean kind2, boolean kind3, int... row) {
        int[] none = {};
        dueRow(what + ", kind 0", x, 0, kind0 ? row : none);
        dueRow(what + ", kind 1", x, 1, kind1 ? row : none);
        dueRow(what + ", kind 2", x, 2, kind2 ? row : none);
        dueRow(what + ", kind 3", x, 3, kind3 ? row : none);
    }

    /** All eight, down from the last to the first one and back: a cycle begins with its least. */
    private static final int[] DOWN = {0, 7, 6, 5, 4, 3, 2, 1};

    private static CountedJudge downAlong(Story back) {
        CountedJudge x = new CountedJudge();
        for (int t : DOWN) {
            x.write(t, 0);
        }
        back.tell(x);
        commit(x, DOWN);
        return x;
    }

    private static void cyclesOfEight() {
        CountedJudge none = downAlong(x -> { });
        dueKinds("11: eight, no way back", none, false, false, false, false);
        CountedJudge ww = downAlong(x -> overwrite(x, 1, 0, 1));
        dueKinds("11: eight, not yet exchanged", ww, false, false, false, false);
        ww.exchange(1, 0);
        dueKinds("11: eight, WW", ww, true, true, false, false, DOWN);
        CountedJudge wr = downAlong(x -> flow(x, 1, 1, 0));
        dueKinds("11: eight, one WR", wr, false, true, false, false, DOWN);
        CountedJudge rw = downAlong(x -> antiFlow(x, 1, 1, 0));
        dueKinds("11: eight, one RW", rw, false, false, true, true, DOWN);
        for (int i : new int[] {8, 9, -1, LEAST, GREATEST}) {
            due("12: step " + i + " of eight", NONE, rw.step(3, i));
        }
        CountedJudge two = new CountedJudge();
        for (int i = 0; i < 4; i++) {
            two.write(DOWN[i], 0);
            two.write(DOWN[i + 4], 1);
        }
        antiFlow(two, 2, DOWN[3], DOWN[4]);
        antiFlow(two, 3, DOWN[7], DOWN[0]);
        commit(two, DOWN);
        dueKinds("11: eight, two RW", two, false, false, false, true, DOWN);
        CountedJudge runs = new CountedJudge();
        for (int t : DOWN) {
            runs.write(t, 0);
        }
        antiFlow(runs, 1, 1, 0);
        commit(runs, 0, 7, 6, 5, 3, 2, 1);
        dueRow("11: one is left out, for it runs", runs, 2, 0, 7, 6, 5, 3, 2, 1);
        runs.end(4, true);
        dueRow("11: its version comes behind", runs, 2, 0, 7, 6, 5, 3, 2, 1);
    }

    /** An edge may be chosen as one sort or another one, and a kind takes what it can use. */
    private static void edgesAreChosen() {
        CountedJudge x = new CountedJudge();
        overwriteRead(x, 0, 0, 1);
        overwriteRead(x, 1, 1, 2);
        overwriteRead(x, 2, 2, 0);
        commit(x, 0, 1, 2);
        x.exchange(2, 0);
        dueKinds("11: each WW or RW", x, true, true, true, true, 0, 1, 2);
        CountedJudge y = new CountedJudge();
        antiFlow(y, 0, 0, 1);
        antiFlow(y, 1, 1, 2);
        flow(y, 2, 2, 0);
        commit(y, 0, 1, 2);
        dueKinds("11: two of three must be RW", y, false, false, false, true, 0, 1, 2);
        CountedJudge z = new CountedJudge();
        antiFlow(z, 0, 0, 1);
        antiFlow(z, 1, 1, 2);
        flow(z, 2, 2, 0);
        flow(z, 3, 1, 2);
        commit(z, 0, 1, 2);
        dueKinds("11: one of three must be RW", z, false, false, true, true, 0, 1, 2);
    }

    private static void theFewestTransactions() {
        CountedJudge x = new CountedJudge();
        flow(x, 0, 0, 1);
        flow(x, 1, 1, 2);
        flow(x, 2, 2, 0);
        flow(x, 3, 6, 7);
        flow(x, 4, 7, 6);
        commit(x, 0, 1, 2, 6);
        dueRow("11: three", x, 1, 0, 1, 2);
        commit(x, 7);
        dueRow("11: two, though greater ones", x, 1, 6, 7);
    }

    /** Of each kind it may be another cycle. */
    private static void theCycleOfEachKind() {
        CountedJudge x = told(BoundaryTest::roundOfWW);
        flow(x, 2, 4, 5);
        flow(x, 2, 5, 4);
        x.read(2, 3, -1);
        flow(x, 3, 3, 2);
        antiFlow(x, 4, 0, 1);
        antiFlow(x, 5, 1, 0);
        commit(x, 0, 1, 2, 3, 4, 5);
        dueRow("12: kind 0", x, 0, 6, 7);
        dueRow("12: kind 1", x, 1, 4, 5);
        dueRow("12: kind 2", x, 2, 2, 3);
        dueRow("12: kind 3", x, 3, 0, 1);
    }

    private static void theLesserAtTheFirstPlace() {
        CountedJudge x = new CountedJudge();
        flow(x, 0, 1, 7);
        flow(x, 1, 7, 1);
        flow(x, 2, 2, 3);
        flow(x, 3, 3, 2);
        commit(x, 2, 3, 1);
        dueRow("12: the only one", x, 1, 2, 3);
        commit(x, 7);
        dueRow("12: the lesser first one, the greater last one", x, 1, 1, 7);
    }

    private static void theLesserAtTheSecondPlace() {
        CountedJudge x = new CountedJudge();
        int v = x.write(0, 0);
        x.read(5, 0, v);
        x.read(2, 0, v);
        flow(x, 1, 5, 1);
        flow(x, 2, 2, 7);
        flow(x, 3, 1, 0);
        flow(x, 4, 7, 0);
        commit(x, 0, 1, 5);
        dueRow("12: the only one", x, 1, 0, 5, 1);
        commit(x, 2, 7);
        dueRow("12: the lesser second one, the greater third one", x, 1, 0, 2, 7);
    }

    private static void theLesserAtTheLastPlace() {
        CountedJudge x = new CountedJudge();
        flow(x, 0, 1, 5);
        flow(x, 1, 5, 3);
        int v = x.write(3, 2);
        x.read(6, 2, v);
        x.read(4, 2, v);
        flow(x, 3, 6, 1);
        flow(x, 4, 4, 1);
        commit(x, 1, 3, 5, 6);
        dueRow("12: the only one", x, 1, 1, 5, 3, 6);
        commit(x, 4);
        dueRow("12: the lesser fourth one", x, 1, 1, 5, 3, 4);
    }

    /** The least row is the one, whichever of its edges is the RW that kind 2 asks for. */
    private static void theLesserWhicheverEdgeIsChosen() {
        CountedJudge x = new CountedJudge();
        overwriteRead(x, 0, 0, 1);
        antiFlow(x, 1, 1, 2);
        flow(x, 2, 2, 0);
        flow(x, 3, 1, 3);
        flow(x, 4, 3, 0);
        commit(x, 0, 1, 3);
        dueRow("12: the first edge must be the RW", x, 2, 0, 1, 3);
        commit(x, 2);
        dueRow("12: the first edge must be the WW", x, 2, 0, 1, 2);
        CountedJudge y = new CountedJudge();
        overwriteRead(y, 0, 0, 1);
        flow(y, 1, 1, 2);
        flow(y, 2, 2, 0);
        antiFlow(y, 3, 1, 3);
        flow(y, 4, 3, 0);
        commit(y, 0, 1, 3);
        dueRow("12: the second edge must be the RW", y, 2, 0, 1, 3);
        commit(y, 2);
        dueRow("12: the second edge must be the WR", y, 2, 0, 1, 2);
    }

    // ---- 13, 14 and 15: serial, place, beginnings ----

    private static void nothingCommitted() {
        dueNothing("13: new", new CountedJudge());
        dueNothing("13: only running ones", told(x -> flow(x, 0, 0, 1)));
        dueNothing("13: only aborted ones", told(x -> {
            flow(x, 0, 0, 1);
            x.end(0, false);
            x.end(1, false);
        }));
        dueNothing("13: cleared", told(x -> {
            roundOfRW(x);
            x.clear();
        }));
    }

    private static void dueNothing(String what, CountedJudge x) {
        dueSerial(what, x, 0);
        for (int i : new int[] {0, 1, 7, 8, LEAST, GREATEST}) {
            due(what + ": place " + i, NONE, x.place(i));
        }
    }

    private static void noSerialOrder() {
        CountedJudge x = told(BoundaryTest::roundOfRW);
        dueNoSerial("13: RW round", x);
        for (int i : new int[] {-1, 0, 1, 2, 7, 8, LEAST, GREATEST}) {
            due("14: place " + i + ", no order", NONE, x.place(i));
        }
        dueNoSerial("13: of a version not final", told(BoundaryTest::readOfOneNotFinal));
        dueNoSerial("13: of an aborted one", told(BoundaryTest::readOfAnAbortedOne));
        dueNoSerial("13: each of the other", told(BoundaryTest::roundOfWR));
        CountedJudge ended = new CountedJudge();
        ended.write(2, 2);
        commit(ended, 2);
        dueSerial("13: one alone", ended, 1, 2);
        roundOfRW(ended);
        dueNoSerial("13: one that matters to nobody does not help", ended);
        due("15: it can stand first in none", 0, ended.beginnings());
    }

    private static void oneCommitted() {
        for (int t = 0; t < 8; t++) {
            CountedJudge x = new CountedJudge();
            x.write(t, 0);
            x.write((t + 1) % 8, 0);
            x.end(t, true);
            dueSerial("13: " + t + " alone", x, 1, t);
        }
    }

    private static void allEightInAnyOrder() {
        CountedJudge x = new CountedJudge();
        for (int t = 7; t >= 0; t--) {
            x.write(t, t % 6);
            x.end(t, true);
        }
        dueSerial("13: eight in any order", x, 8, ALL);
        for (int i : new int[] {8, 9, -1, LEAST, GREATEST}) {
            due("14: place " + i + " of eight", NONE, x.place(i));
        }
    }

    private static void allEightInOneOrder() {
        int[] order = {7, 0, 6, 1, 5, 2, 4, 3};
        CountedJudge x = new CountedJudge();
        int last = -1;
        for (int t : order) {
            x.read(t, 0, last);
            last = x.write(t, 0);
        }
        for (int t = 0; t < 8; t++) {
            x.end(t, true);
        }
        dueSerial("13: eight in one order", x, 1, order);
    }

    private static void allEightInNone() {
        CountedJudge x = new CountedJudge();
        for (int t = 0; t < 8; t++) {
            x.read(t, 0, -1);
        }
        x.write(7, 0);
        x.write(6, 0);
        for (int t = 0; t < 6; t++) {
            x.end(t, true);
        }
        dueSerial("13: six of eight", x, 6, 0, 1, 2, 3, 4, 5);
        x.end(6, true);
        dueSerial("13: seven of eight", x, 6, 0, 1, 2, 3, 4, 5, 6);
        x.end(7, true);
        dueNoSerial("13: both of the last two read -1 and write", x);
        for (int i = -1; i <= 8; i++) {
            due("14: place " + i + ", eight in none", NONE, x.place(i));
        }
    }

    /** What is read stands right behind what wrote it, but for those that do not write it. */
    private static void theLesserAtEachPlace() {
        CountedJudge x = new CountedJudge();
        flow(x, 0, 4, 6);
        x.write(0, 0);
        x.write(1, 1);
        commit(x, 0, 1, 4, 6);
        dueSerial("14: the reader is between, or all before", x, 3, 0, 1, 4, 6);
        CountedJudge y = new CountedJudge();
        flow(y, 0, 0, 6);
        y.write(1, 0);
        y.write(2, 1);
        y.write(6, 0);
        commit(y, 0, 1, 2, 6);
        dueSerial("14: 1 may stand before or behind them, not between", y, 3, 0, 2, 6, 1);
        CountedJudge z = new CountedJudge();
        antiFlow(z, 0, 7, 0);
        flow(z, 1, 1, 7);
        commit(z, 0, 1, 7);
        dueSerial("14: 0 must wait to the end", z, 1, 1, 7, 0);
    }

    private static void readsBehindOnesOwnWrites() {
        CountedJudge x = new CountedJudge();
        x.read(0, 0, -1);
        x.write(0, 0);
        x.read(0, 0, 0);
        x.write(0, 0);
        x.read(0, 0, 1);
        x.read(1, 0, 1);
        commit(x, 0, 1);
        dueSerial("13: the latest one of its own each time", x, 1, 0, 1);
        dueNoSerial("13: one's own, before the latest", told(y -> {
            y.write(0, 0);
            y.write(0, 0);
            y.read(0, 0, 0);
            y.end(0, true);
        }));
        dueNoSerial("13: -1 behind one's own write", told(y -> {
            y.write(0, 0);
            y.read(0, 0, -1);
            y.end(0, true);
        }));
        dueNoSerial("13: another one's behind one's own write", told(y -> {
            y.write(1, 0);
            y.write(0, 0);
            y.read(0, 0, 0);
            commit(y, 0, 1);
        }));
        dueSerial("13: -1 of another item behind one's own write", told(y -> {
            y.write(0, 0);
            y.read(0, 1, -1);
            y.end(0, true);
        }), 1, 0);
    }

    /** Only an order that can be ended counts, not one that merely can be begun. */
    private static void beginningsThatLeadToAnEnd() {
        CountedJudge x = new CountedJudge();
        flow(x, 0, 0, 3);
        x.write(1, 0);
        antiFlow(x, 1, 1, 3);
        antiFlow(x, 2, 3, 2);
        commit(x, 0, 1, 2, 3);
        dueSerial("15: 0 cannot stand first, for 1 would cut off its reader", x, 1, 1, 0, 3, 2);
    }

    // ---- 16: clear ----

    private static void clearOfANewOne() {
        CountedJudge x = new CountedJudge();
        due("16: of a new one", 0, x.clear());
        due("16: twice", 0, x.clear());
        dueSame("16: of a new one", new CountedJudge(), x);
    }

    private static void fill(CountedJudge x) {
        for (int i = 0; i < 40; i++) {
            due("16: version", i, x.write(i % 8, i % 6));
        }
        for (int i = 0; i < 60; i++) {
            due("16: read", i + 1, x.read(i % 8, i % 3, i % 2 == 0 ? -1 : i % 3));
        }
        for (int t = 0; t < 8; t++) {
            x.end(t, t != 3);
        }
        due("16: exchange", true, x.exchange(0, 0));
    }

    private static void clearOfAFullOne() {
        CountedJudge x = told(BoundaryTest::fill);
        due("16: of a full one", 40, x.clear());
        due("16: of a full one, twice", 0, x.clear());
        dueSame("16: of a full one", new CountedJudge(), x);
        CountedJudge again = told(BoundaryTest::fill);
        again.clear();
        fill(again);
        due("16: filled again", 40, again.clear());
    }

    private static void clearForgetsAll() {
        Story story = x -> {
            flow(x, 0, 5, 2);
            overwriteRead(x, 1, 2, 5);
            antiFlow(x, 2, 5, 1);
            x.write(3, 1);
            commit(x, 5, 2, 1);
            x.exchange(1, 0);
        };
        CountedJudge x = told(BoundaryTest::roundOfWW);
        readOfAnAbortedOne(x);
        readOfOneNotFinal(x);
        x.write(5, 5);
        due("16: some, ended or not", 8, x.clear());
        story.tell(x);
        dueSame("16: behind it the same calls answer the same", told(story), x);
        CountedJudge reads = new CountedJudge();
        reads.read(0, 0, -1);
        due("16: reads are no versions", 0, reads.clear());
        dueSame("16: reads are forgotten", new CountedJudge(), reads);
    }

    /** What a transaction wrote before must not come into the order when it commits anew. */
    private static void clearForgetsWhatEachOneWrote() {
        CountedJudge x = new CountedJudge();
        for (int from = 0; from < 8; from += 4) {
            for (int i = 0; i < 24; i++) {
                x.write(from + i / 6, i % 6);
            }
            due("16: four times six", 24, x.clear());
        }
        CountedJudge fresh = new CountedJudge();
        for (int t = 0; t < 8; t++) {
            x.read(t, t % 6, -1);
            fresh.read(t, t % 6, -1);
        }
        dueSame("16: what each one wrote is forgotten", fresh, x);
    }

    /** What was found for a question before must not come into the answers to a later one. */
    private static void clearForgetsWhatWasAsked() {
        CountedJudge x = new CountedJudge();
        antiFlow(x, 0, 5, 2);
        flow(x, 1, 0, 6);
        x.write(3, 1);
        commit(x, 5, 2, 0, 6, 3);
        due("16: WW, asked", 1, x.edges(0, 3));
        due("16: flaws, asked", 0, x.flaws());
        dueSerial("16: asked", x, 3, 0, 5, 2, 6, 3);
        x.clear();
        for (int t = 0; t < 8; t++) {
            x.write(t, t % 6);
            x.end(t, true);
        }
        due("16: WW is forgotten", 0, x.edges(0, 3));
        due("16: WR is forgotten", 0, x.edges(0, 6) & 2);
        due("16: RW is forgotten", 0, x.edges(5, 2));
        dueSerial("16: which ones must stand before others is forgotten", x, 8, ALL);
        x.clear();
        readOfAnAbortedOne(x);
        dueNoSerial("16: asked, no order", x);
        x.clear();
        roundOfWW(x);
        dueSerial("16: that there was no order is forgotten", x, 2, 6, 7);
        dueRow("16: asked, a cycle", x, 0, 6, 7);
        x.clear();
        overwrite(x, 0, 7, 6);
        commit(x, 7, 6);
        dueRow("16: the cycle is forgotten", x, 0);
    }

    // ---- Questions ----

    /** Asking changes nothing, whatever was asked before. */
    private static void questionsChangeNothing() {
        Story story = x -> {
            antiFlow(x, 0, 1, 0);
            overwrite(x, 1, 0, 1);
            flow(x, 2, 2, 3);
            commit(x, 0, 1, 2, 3);
        };
        CountedJudge x = told(story);
        for (int i = -1; i < 9; i++) {
            x.step(3, i);
            x.step(0, i);
            x.place(i);
            x.version(1, i);
            x.edges(i, 8 - i);
            x.state(i);
            x.cycle(i);
        }
        x.flaws();
        x.level();
        x.serial();
        x.beginnings();
        dueSame("questions change nothing", told(story), x);
    }

    public static void main(String[] args) {
        aTransactionRunsFromItsFirstWriteOrRead();
        versionsAreNumberedAsTheyAreMade();
        readsAreCountedOverAll();
        theFirstVersionIsWrittenByNobody();
        minusOneComesBeforeAllOfTheOrder();
        aVersionIsFinalWhenItsItemIsWrittenNoMore();
        theOrderIsByCommitsNotByWrites();
        theLastVersionHasNoNextOne();
        whatRunsCountsAsAborted();
        stateOfNoTransaction();
        versionOfNoItem();
        versionInAnEmptyOrder();
        versionAtTheLastPlaceAndBehind();
        exchangeOfTheFirstAndTheLastTwo();
        exchangeMovesOneItemAlone();
        whatIsCommittedLaterComesBehind();
        exchangeDoesNotMatterToSerialOrders();
        edgesOfOneNotCommitted();
        edgesOfTheSame();
        edgesOfNoTransaction();
        eachSortAlone();
        edgesOfAVersionNotFinal();
        edgesPassOverAnAbortedOne();
        eachFlawByItself();
        levelsWithLesserFlaws();
        readsThatAreNoFlaw();
        noCycle();
        noSuchKind();
        placesOfAStep();
        cyclesOfTwo();
        cyclesOfEight();
        edgesAreChosen();
        theFewestTransactions();
        theCycleOfEachKind();
        theLesserAtTheFirstPlace();
        theLesserAtTheSecondPlace();
        theLesserAtTheLastPlace();
        theLesserWhicheverEdgeIsChosen();
        nothingCommitted();
        noSerialOrder();
        oneCommitted();
        allEightInAnyOrder();
        allEightInOneOrder();
        allEightInNone();
        theLesserAtEachPlace();
        readsBehindOnesOwnWrites();
        beginningsThatLeadToAnEnd();
        clearOfANewOne();
        clearOfAFullOne();
        clearForgetsAll();
        clearForgetsWhatEachOneWrote();
        clearForgetsWhatWasAsked();
        questionsChangeNothing();
        close();
    }
}
