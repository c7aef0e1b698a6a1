import java.math.BigInteger;

/**
 * Each promise with ordinary inputs, the document's edges and wrong inputs. What is due is worked
 * out by hand, and holds for every seed where several workers have a part in it.
 */
final class PromisesTest {
    private static final int[] FAR = {Integer.MIN_VALUE, Integer.MAX_VALUE};
    private static final long[] SEEDS = {0, 1, -1, 7, 1234567890123L, Long.MIN_VALUE, Long.MAX_VALUE};
    private static final Check CHECK = new Check();

    public static void main(String[] args) {
        newObjectHasNearestNumbers();
        newObjectIsAsAtFirst();
        newObjectRunsAsAtFirst();
        shareTakesEdges();
        shareRefuses();
        shareTakesEffect();
        needCounts();
        needRefuses();
        needAddsValues();
        needBehindTheLastStepIsNone();
        freeDropsAll();
        failingCounts();
        failingRefuses();
        failingEndsTheWorker();
        failingBringsTheShareToTheEnd();
        failingComesBehindWaiting();
        failingIsOfOneWorkerShareAndStep();
        stopTellsWhereItWas();
        stopEndsTheRun();
        runRefuses();
        runPicksByTheSeed();
        runKeepsToTheRoom();
        runIsStuck();
        runPutsTheSameValues();
        runKeepsValuesWhenItFails();
        atAnswersWhatWasPut();
        orderIsOfTheLatestRun();
        begunIsOfTheLatestRun();
        waitedIsForTheFirstUnmet();
        waitedIsOfTheLatestRun();
        toldAnswersEach();
        ticksAddUp();
        clearMakesAllAsAtFirst();
        CHECK.close("PromisesTest");
    }

    /** The value behind a step by the document's words, in numbers that have no bound. */
    private static long behind(long value, int s, long... needed) {
        BigInteger sum = BigInteger.valueOf(value).multiply(new BigInteger("6364136223846793005"))
                .add(BigInteger.valueOf(s)).add(BigInteger.ONE);
        for (long n : needed) {
            sum = sum.add(BigInteger.valueOf(n));
        }
        BigInteger low = sum.mod(BigInteger.ONE.shiftLeft(64));
        return low.xor(low.shiftRight(29)).longValue();
    }

    private static long behindSteps(long start, int steps) {
        long value = start;
        for (int s = 0; s < steps; s++) {
            value = behind(value, s);
        }
        return value;
    }

    private static void newObjectHasNearestNumbers() {
        int[][] rows = {
            {1, 1, 1, 1}, {16, 1000, 16, 1000}, {7, 77, 7, 77}, {0, 0, 1, 1}, {17, 1001, 16, 1000},
            {-1, -1, 1, 1}, {FAR[0], FAR[0], 1, 1}, {FAR[1], FAR[1], 16, 1000}, {2, 5000, 2, 1000}, {40, 3, 16, 3},
        };
        for (int[] row : rows) {
            TileShares x = new TileShares(row[0], row[1]);
            CHECK.due("1: shares of " + row[0], row[2], x.told(0));
            CHECK.due("1: room of " + row[1], row[3], x.told(1));
            CHECK.dueThrow("1: the share behind the last", Check.INDEX, () -> x.begun(row[2]));
            CHECK.due("1: the last share", 0, x.begun(row[2] - 1));
        }
    }

    private static void newObjectIsAsAtFirst() {
        TileShares x = new TileShares(4, 9);
        int[] first = {4, 9, 0, TileShares.NONE, 0, 0, 0, 0, 0, 0, 0, 0};
        for (int what = 0; what < first.length; what++) {
            CHECK.due("1: told(" + what + ")", first[what], x.told(what));
        }
        CHECK.dueThrow("1: order(0)", Check.INDEX, () -> x.order(0));
        for (int i = 0; i < 4; i++) {
            int share = i;
            CHECK.dueThrow("1: at", Check.STATE, () -> x.at(share));
            CHECK.due("1: begun", 0, x.begun(i));
            CHECK.due("1: needs", 0, x.free(i));
            for (int k = 0; k < 4; k++) {
                CHECK.due("1: waited", 0, x.waited(i, k));
            }
        }
    }

    private static void newObjectRunsAsAtFirst() {
        TileShares x = new TileShares(16, 1);
        CHECK.due("1: run", 0, x.run(1, 5));
        CHECK.due("1: a step for each share", 16, x.told(7));
        CHECK.due("1: a cell at a time", 1, x.told(8));
        for (int i = 0; i < 16; i++) {
            CHECK.due("1: at(" + i + ")", behind(i, 0), x.at(i));
        }
    }

    private static void shareTakesEdges() {
        TileShares x = new TileShares(3, 50);
        CHECK.due("2: least", 0, x.share(0, 1, 1, Long.MIN_VALUE));
        CHECK.due("2: most", 0, x.share(2, 20, 50, Long.MAX_VALUE));
        x.need(2, 0, 1, 1);
        x.need(2, 1, 1, 1);
        CHECK.due("2: answers its needs", 2, x.share(2, 20, 50, Long.MAX_VALUE));
        CHECK.due("2: answers its own needs", 0, x.share(1, 2, 2, 2));
    }

    private static void shareRefuses() {
        TileShares x = new TileShares(2, 5);
        TileShares twin = new TileShares(2, 5);
        x.share(1, 3, 4, 5);
        twin.share(1, 3, 4, 5);
        for (int share : new int[] {-1, 2, FAR[0], FAR[1]}) {
            CHECK.dueThrow("2: share", Check.INDEX, () -> x.share(share, 1, 1, 1));
            CHECK.dueThrow("2: share first", Check.INDEX, () -> x.share(share, 0, 0, 1));
        }
        for (int steps : new int[] {0, 21, -1, FAR[0], FAR[1]}) {
            CHECK.dueThrow("2: steps", Check.ARGUMENT, () -> x.share(1, steps, 1, 9));
        }
        for (int cells : new int[] {0, 6, -1, FAR[0], FAR[1]}) {
            CHECK.dueThrow("2: cells", Check.ARGUMENT, () -> x.share(1, 1, cells, 9));
        }
        x.run(1, 1);
        twin.run(1, 1);
        CHECK.dueText("2: a call that throws changes nothing", Check.stateOf(twin), Check.stateOf(x));
    }

    private static void shareTakesEffect() {
        TileShares x = new TileShares(1, 1000);
        x.share(0, 20, 1000, -77);
        CHECK.due("2: run", 0, x.run(1, 3));
        CHECK.due("2: steps", 20, x.told(7));
        CHECK.due("2: cells", 1000, x.told(8));
        CHECK.due("2: start", behindSteps(-77, 20), x.at(0));
        x.share(0, 1, 1, Long.MIN_VALUE);
        CHECK.due("2: what was put stays", behindSteps(-77, 20), x.at(0));
        x.run(1, 3);
        CHECK.due("2: steps told again", 1, x.told(7));
        CHECK.due("2: start told again", behindSteps(Long.MIN_VALUE, 1), x.at(0));
    }

    private static void needCounts() {
        TileShares x = new TileShares(16, 1);
        CHECK.due("3: least", 1, x.need(0, 0, 15, 1));
        CHECK.due("3: most", 2, x.need(0, 19, 15, 20));
        CHECK.due("3: the same again", 3, x.need(0, 19, 15, 20));
        for (int count = 4; count <= 6; count++) {
            CHECK.due("3: more", count, x.need(0, 5, count, 5));
        }
        CHECK.dueThrow("3: a seventh", Check.UNSUPPORTED, () -> x.need(0, 5, 1, 5));
        CHECK.due("3: of another share", 1, x.need(15, 5, 0, 5));
        CHECK.due("3: it still has six", 6, x.share(0, 1, 1, 1));
    }

    private static void needRefuses() {
        TileShares x = new TileShares(3, 5);
        for (int bad : new int[] {-1, 3, FAR[0], FAR[1]}) {
            CHECK.dueThrow("3: share", Check.INDEX, () -> x.need(bad, 0, 0, 1));
            CHECK.dueThrow("3: other", Check.INDEX, () -> x.need(0, 0, bad, 1));
            CHECK.dueThrow("3: other before s", Check.INDEX, () -> x.need(0, 20, bad, 1));
            CHECK.dueThrow("3: no share before itself", Check.INDEX, () -> x.need(bad, 0, bad, 1));
        }
        for (int s : new int[] {-1, 20, FAR[0], FAR[1]}) {
            CHECK.dueThrow("3: s", Check.ARGUMENT, () -> x.need(0, s, 1, 1));
        }
        for (int m : new int[] {0, 21, -1, FAR[0], FAR[1]}) {
            CHECK.dueThrow("3: m", Check.ARGUMENT, () -> x.need(0, 0, 1, m));
        }
        CHECK.dueThrow("3: itself", Check.ARGUMENT, () -> x.need(2, 0, 2, 1));
        CHECK.due("3: a call that throws changes nothing", 0, x.free(0));
        for (int k = 0; k < 6; k++) {
            x.need(0, 0, 1, 1);
        }
        CHECK.dueThrow("3: share before no room", Check.INDEX, () -> x.need(0, 0, 3, 1));
        CHECK.dueThrow("3: s before no room", Check.ARGUMENT, () -> x.need(0, 20, 1, 1));
        CHECK.dueThrow("3: itself before no room", Check.ARGUMENT, () -> x.need(0, 0, 0, 1));
        CHECK.due("3: six are kept", 6, x.free(0));
    }

    private static void needAddsValues() {
        TileShares x = new TileShares(3, 5);
        x.share(0, 2, 1, 100);
        x.share(1, 1, 1, 200);
        x.share(2, 2, 1, 300);
        x.need(2, 1, 0, 1);
        x.need(2, 0, 1, 1);
        x.need(2, 1, 0, 2);
        x.need(2, 1, 0, 2);
        CHECK.due("3: run", 0, x.run(1, 1));
        long first = behind(100, 0);
        long second = behind(first, 1);
        CHECK.due("3: without needs", second, x.at(0));
        CHECK.due("3: with needs", behind(behind(300, 0, behind(200, 0)), 1, first, second, second), x.at(2));
    }

    private static void needBehindTheLastStepIsNone() {
        TileShares x = new TileShares(2, 5);
        x.need(0, 1, 1, 20);
        CHECK.due("3: a need of a step that it has not", 0, x.run(1, 1));
        CHECK.due("3: its value", behind(0, 0), x.at(0));
        x.share(0, 2, 1, 0);
        CHECK.due("3: more steps than the other has", -2, x.run(2, 1));
    }

    private static void freeDropsAll() {
        TileShares x = new TileShares(2, 5);
        for (int k = 0; k < 6; k++) {
            x.need(0, 0, 1, 20);
        }
        x.need(1, 0, 0, 1);
        for (int bad : new int[] {-1, 2, FAR[0], FAR[1]}) {
            CHECK.dueThrow("4: free", Check.INDEX, () -> x.free(bad));
        }
        CHECK.due("4: stuck before", -2, x.run(2, 1));
        CHECK.due("4: how many there were", 6, x.free(0));
        CHECK.due("4: none is left", 0, x.free(0));
        CHECK.due("4: run", 0, x.run(2, 1));
        CHECK.due("4: no need in its value", behind(0, 0), x.at(0));
        CHECK.due("4: another share's stay", behind(1, 0, behind(0, 0)), x.at(1));
        CHECK.due("4: told anew", 1, x.need(0, 0, 1, 1));
        CHECK.due("4: of the other", 1, x.free(1));
    }

    private static void failingCounts() {
        TileShares x = new TileShares(2, 5);
        CHECK.due("5: least", 1, x.failing(0, 0, 0, 1));
        CHECK.due("5: most", 2, x.failing(15, 1, 19, 9));
        for (int count = 3; count <= 8; count++) {
            CHECK.due("5: the same again", count, x.failing(0, 0, 0, 1));
        }
        CHECK.dueThrow("5: a ninth", Check.UNSUPPORTED, () -> x.failing(1, 1, 1, 1));
        CHECK.due("5: told", 8, x.told(2));
        CHECK.due("5: run with eight", -1, x.run(1, 1));
    }

    private static void failingRefuses() {
        TileShares x = new TileShares(2, 5);
        for (int share : new int[] {-1, 2, FAR[0], FAR[1]}) {
            CHECK.dueThrow("5: share", Check.INDEX, () -> x.failing(0, share, 0, 1));
            CHECK.dueThrow("5: share first", Check.INDEX, () -> x.failing(16, share, 20, 0));
        }
        for (int worker : new int[] {-1, 16, FAR[0], FAR[1]}) {
            CHECK.dueThrow("5: worker", Check.ARGUMENT, () -> x.failing(worker, 0, 0, 1));
        }
        for (int s : new int[] {-1, 20, FAR[0], FAR[1]}) {
            CHECK.dueThrow("5: s", Check.ARGUMENT, () -> x.failing(0, 0, s, 1));
        }
        for (int times : new int[] {0, 10, -1, FAR[0], FAR[1]}) {
            CHECK.dueThrow("5: times", Check.ARGUMENT, () -> x.failing(0, 0, 0, times));
        }
        CHECK.due("5: a call that throws changes nothing", 0, x.told(2));
        CHECK.due("5: nor does a run fail", 0, x.run(1, 1));
        for (int k = 0; k < 8; k++) {
            x.failing(9, 0, 0, 1);
        }
        CHECK.dueThrow("5: share before no room", Check.INDEX, () -> x.failing(0, 2, 0, 1));
        CHECK.dueThrow("5: times before no room", Check.ARGUMENT, () -> x.failing(0, 0, 0, 10));
        CHECK.due("5: run with eight of a worker that is not there", 0, x.run(1, 1));
    }

    private static void failingEndsTheWorker() {
        TileShares x = new TileShares(1, 5);
        x.share(0, 20, 5, 1);
        x.failing(0, 0, 19, 1);
        for (int run = 0; run < 3; run++) {
            CHECK.due("5: in each run", -1, x.run(1, run));
            CHECK.due("5: ticks", 21, x.told(4));
            CHECK.due("5: steps", 19, x.told(7));
            CHECK.due("5: none lives", 0, x.told(9));
        }
    }

    /**
     * Both workers fail at share 0, so the second of them must first have finished share 1, for
     * which there is room only when a failed share's cells are in use no more.
     */
    private static void failingBringsTheShareToTheEnd() {
        for (long seed : SEEDS) {
            TileShares x = new TileShares(2, 5);
            x.share(0, 3, 5, 0);
            x.share(1, 4, 5, 0);
            x.failing(0, 0, 2, 9);
            x.failing(1, 0, 2, 9);
            CHECK.due("5: run", -1, x.run(2, seed));
            CHECK.due("5: begun anew", 2, x.begun(0));
            CHECK.due("5: begun once", 1, x.begun(1));
            CHECK.due("5: finished", 1, x.told(10));
            CHECK.due("5: order", 1, x.order(0));
            CHECK.due("5: steps, the lost ones too", 2 + 4 + 2, x.told(7));
            CHECK.due("5: no value", 0, x.told(11));
        }
    }

    private static void failingComesBehindWaiting() {
        TileShares x = new TileShares(2, 5);
        x.need(0, 0, 1, 1);
        x.failing(0, 0, 0, 1);
        CHECK.due("5: it waits, so it does not fail", -2, x.run(1, 1));
        CHECK.due("5: it lives", 1, x.told(9));
    }

    private static void failingIsOfOneWorkerShareAndStep() {
        TileShares x = new TileShares(2, 5);
        x.failing(1, 0, 0, 1);
        x.failing(0, 1, 1, 1);
        CHECK.due("5: another worker, or step that there is not", 0, x.run(1, 1));
        x.failing(0, 1, 0, 1);
        CHECK.due("5: this one", -1, x.run(1, 1));
        CHECK.due("5: behind share 0", 1, x.told(10));
    }

    private static void stopTellsWhereItWas() {
        TileShares x = new TileShares(3, 5);
        CHECK.due("6: at first", TileShares.NONE, x.stop(2));
        for (int bad : new int[] {-2, 3, FAR[0], FAR[1]}) {
            CHECK.dueThrow("6: stop", Check.INDEX, () -> x.stop(bad));
        }
        CHECK.due("6: told", 2, x.told(3));
        CHECK.due("6: where it was", 2, x.stop(0));
        CHECK.due("6: there again", 0, x.stop(0));
        CHECK.due("6: to none", 0, x.stop(TileShares.NONE));
        CHECK.due("6: from none", TileShares.NONE, x.stop(TileShares.NONE));
    }

    private static void stopEndsTheRun() {
        TileShares x = new TileShares(3, 5);
        CHECK.due("6: without", 0, x.run(1, 1));
        x.stop(1);
        CHECK.due("6: run", 1, x.run(1, 1));
        CHECK.due("6: finished", 2, x.told(10));
        CHECK.due("6: ticks", 4, x.told(4));
        CHECK.due("6: values", 2, x.told(11));
        CHECK.due("6: its value", behind(1, 0), x.at(1));
        CHECK.dueThrow("6: others have none", Check.STATE, () -> x.at(2));
        x.stop(2);
        CHECK.due("6: all are finished comes first", 0, x.run(1, 1));
        x.stop(0);
        x.failing(0, 0, 0, 1);
        CHECK.due("6: not finished", -1, x.run(1, 1));
        x.stop(TileShares.NONE);
        CHECK.due("6: still none lives", -1, x.run(1, 1));
    }

    private static void runRefuses() {
        TileShares x = new TileShares(2, 5);
        x.run(2, 9);
        String before = Check.stateOf(x);
        for (int workers : new int[] {0, 17, -1, FAR[0], FAR[1]}) {
            CHECK.dueThrow("7: workers", Check.ARGUMENT, () -> x.run(workers, 1));
        }
        CHECK.dueText("7: a call that throws changes nothing", before, Check.stateOf(x));
        for (int workers = 1; workers <= 16; workers++) {
            CHECK.due("7: run", 0, x.run(workers, workers));
            CHECK.due("7: all live", workers, x.told(9));
        }
    }

    /** With two workers and one share, the worker that has not got it is IDLE. */
    private static void runPicksByTheSeed() {
        for (long seed : SEEDS) {
            TileShares x = new TileShares(1, 1);
            x.share(0, 20, 1, 0);
            BigInteger number = BigInteger.valueOf(seed);
            int holder = -1;
            int moves = 0;
            int ticks = 0;
            while (moves < 21) {
                number = number.multiply(new BigInteger("6364136223846793005"))
                        .add(new BigInteger("1442695040888963407")).mod(BigInteger.ONE.shiftLeft(64));
                int worker = number.shiftRight(33).mod(BigInteger.valueOf(3)).intValue();
                holder = ticks == 0 ? worker : holder;
                moves += worker == holder ? 1 : 0;
                ticks++;
            }
            CHECK.due("7: run", 0, x.run(3, seed));
            CHECK.due("7: ticks", ticks, x.told(4));
            CHECK.due("7: idle", ticks - 21, x.told(5));
        }
    }

    private static void runKeepsToTheRoom() {
        for (long seed : SEEDS) {
            TileShares x = new TileShares(3, 10);
            for (int i = 0; i < 3; i++) {
                x.share(i, 20, 4 + i, i);
            }
            CHECK.due("7: run", 0, x.run(16, seed));
            CHECK.dueText("7: never above the room", "true", String.valueOf(x.told(8) <= 10));
            CHECK.due("7: exactly the room fits", 0, runOfOneThatNeedsTheNext(6, 4, seed));
            CHECK.due("7: one more does not", -2, runOfOneThatNeedsTheNext(6, 5, seed));
        }
    }

    /** It can only end well if the room has place for both of them. */
    private static int runOfOneThatNeedsTheNext(int cells, int cellsOfNext, long seed) {
        TileShares x = new TileShares(2, 10);
        x.share(0, 1, cells, 0);
        x.share(1, 1, cellsOfNext, 0);
        x.need(0, 0, 1, 1);
        int end = x.run(4, seed);
        CHECK.due("7: most cells", end == 0 ? cells + cellsOfNext : cells, x.told(8));
        return end;
    }

    private static void runIsStuck() {
        for (long seed : SEEDS) {
            TileShares x = new TileShares(2, 10);
            x.need(0, 0, 1, 1);
            CHECK.due("7: its only worker waits", -2, x.run(1, seed));
            CHECK.due("7: at once", 1, x.told(4));
            CHECK.due("7: no tick was waited", 0, x.told(6));
            CHECK.due("7: another worker helps", 0, x.run(2, seed));
            x.need(1, 0, 0, 1);
            CHECK.due("7: each for the other", -2, x.run(2, seed));
            CHECK.due("7: each for the other, with more workers", -2, x.run(16, seed));
            CHECK.due("7: all live", 16, x.told(9));
        }
    }

    private static void runPutsTheSameValues() {
        TileShares x = new TileShares(5, 100);
        for (int i = 0; i < 5; i++) {
            x.share(i, 4 + i, 3 * i + 1, -i);
            if (i > 0) {
                x.need(i, i, i - 1, i);
                x.need(i, 2, 0, 3);
            }
        }
        x.failing(1, 2, 3, 1);
        x.failing(2, 4, 0, 1);
        x.run(1, 0);
        String values = valuesOf(x);
        for (long seed : SEEDS) {
            for (int workers = 4; workers <= 16; workers += 3) {
                CHECK.due("7: run", 0, x.run(workers, seed));
                CHECK.dueText("7: values", values, valuesOf(x));
            }
        }
    }

    private static String valuesOf(TileShares x) {
        StringBuilder text = new StringBuilder();
        for (int i = 0; i < x.told(0); i++) {
            text.append(x.at(i)).append(' ');
        }
        return text.toString();
    }

    private static void runKeepsValuesWhenItFails() {
        TileShares x = new TileShares(2, 10);
        x.stop(0);
        CHECK.due("7: run", 1, x.run(1, 1));
        x.share(0, 1, 1, 55);
        x.stop(TileShares.NONE);
        x.failing(0, 1, 0, 1);
        CHECK.due("7: no worker", -1, x.run(1, 1));
        CHECK.due("7: share 0 was finished", 0, x.order(0));
        CHECK.due("7: the old value", behind(0, 0), x.at(0));
        CHECK.dueThrow("7: no value before", Check.STATE, () -> x.at(1));
        x.need(0, 0, 1, 1);
        CHECK.due("7: stuck", -2, x.run(1, 1));
        CHECK.due("7: the old value again", behind(0, 0), x.at(0));
        CHECK.due("7: how many", 1, x.told(11));
    }

    private static void atAnswersWhatWasPut() {
        TileShares x = new TileShares(2, 10);
        for (int bad : new int[] {-1, 2, FAR[0], FAR[1]}) {
            CHECK.dueThrow("8: at", Check.INDEX, () -> x.at(bad));
        }
        CHECK.dueThrow("8: before a run", Check.STATE, () -> x.at(1));
        x.share(1, 2, 1, -1);
        x.run(2, 1);
        CHECK.due("8: at", behindSteps(-1, 2), x.at(1));
        CHECK.due("8: the first value of the shared tests", 1, x.at(0));
        CHECK.dueThrow("8: at behind the last", Check.INDEX, () -> x.at(2));
    }

    private static void orderIsOfTheLatestRun() {
        TileShares x = new TileShares(3, 10);
        x.need(0, 0, 2, 1);
        x.need(2, 0, 1, 1);
        for (long seed : SEEDS) {
            CHECK.due("9: run", 0, x.run(3, seed));
            CHECK.due("9: order", 1, x.order(0));
            CHECK.due("9: order", 2, x.order(1));
            CHECK.due("9: order", 0, x.order(2));
        }
        for (int bad : new int[] {-1, 3, FAR[0], FAR[1]}) {
            CHECK.dueThrow("9: order", Check.INDEX, () -> x.order(bad));
        }
        x.free(0);
        x.failing(0, 1, 0, 1);
        CHECK.due("9: a run that fails", -1, x.run(1, 1));
        CHECK.due("9: of it too", 0, x.order(0));
        CHECK.dueThrow("9: no more than were finished", Check.INDEX, () -> x.order(1));
        x.need(0, 0, 2, 1);
        CHECK.due("9: a run that is stuck", -2, x.run(1, 1));
        CHECK.dueThrow("9: none was finished", Check.INDEX, () -> x.order(0));
    }

    private static void begunIsOfTheLatestRun() {
        TileShares x = new TileShares(2, 10);
        for (int bad : new int[] {-1, 2, FAR[0], FAR[1]}) {
            CHECK.dueThrow("10: begun", Check.INDEX, () -> x.begun(bad));
        }
        for (int worker = 0; worker < 5; worker++) {
            x.failing(worker, 0, 0, 1);
        }
        for (long seed : SEEDS) {
            CHECK.due("10: run", -1, x.run(5, seed));
            CHECK.due("10: once for each worker", 5, x.begun(0));
            CHECK.due("10: once", 1, x.begun(1));
        }
        x.run(1, 1);
        CHECK.due("10: counted anew", 1, x.begun(0));
        CHECK.due("10: not begun", 0, x.begun(1));
    }

    private static void waitedIsForTheFirstUnmet() {
        TileShares x = new TileShares(3, 10);
        x.share(2, 20, 1, 0);
        x.need(0, 0, 1, 20);
        x.need(0, 0, 2, 20);
        CHECK.due("11: never met", -2, x.run(3, 5));
        CHECK.dueText("11: there were some", "true", String.valueOf(x.told(6) > 0));
        CHECK.due("11: for the first told", x.told(6), x.waited(0, 1));
        CHECK.due("11: not for the next", 0, x.waited(0, 2));
        x.free(0);
        x.need(0, 0, 2, 20);
        x.need(0, 0, 1, 20);
        CHECK.due("11: never met", -2, x.run(3, 5));
        CHECK.due("11: for the one told first now", x.told(6), x.waited(0, 2));
        CHECK.due("11: stuck as soon as that is met", 0, x.waited(0, 1));
        CHECK.due("11: not the other way", 0, x.waited(2, 0));
    }

    private static void waitedIsOfTheLatestRun() {
        TileShares x = new TileShares(2, 10);
        for (int bad : new int[] {-1, 2, FAR[0], FAR[1]}) {
            CHECK.dueThrow("11: share", Check.INDEX, () -> x.waited(bad, 0));
            CHECK.dueThrow("11: other", Check.INDEX, () -> x.waited(0, bad));
        }
        x.share(1, 20, 1, 0);
        x.need(0, 0, 1, 20);
        x.run(2, 8);
        CHECK.dueText("11: there were some", "true", String.valueOf(x.waited(0, 1) > 0));
        CHECK.due("11: for itself", 0, x.waited(0, 0));
        x.free(0);
        x.run(2, 8);
        CHECK.due("11: counted anew", 0, x.waited(0, 1));
    }

    private static void toldAnswersEach() {
        TileShares x = new TileShares(3, 10);
        x.share(0, 5, 7, 0);
        x.share(1, 1, 8, 0);
        x.failing(3, 0, 0, 1);
        x.failing(0, 2, 0, 1);
        x.stop(2);
        CHECK.due("12: run", -1, x.run(1, 1));
        int[] due = {3, 10, 2, 2, 6 + 2 + 2, 0, 0, 6, 8, 0, 2, 0};
        for (int what = 0; what < due.length; what++) {
            CHECK.due("12: told(" + what + ")", due[what], x.told(what));
        }
        for (int other : new int[] {12, 13, -1, FAR[0], FAR[1]}) {
            CHECK.due("12: told(" + other + ")", TileShares.NONE, x.told(other));
        }
        x.stop(1);
        CHECK.due("12: run", 1, x.run(1, 1));
        CHECK.due("12: values", 2, x.told(11));
        CHECK.due("12: living", 1, x.told(9));
    }

    /** Each TICK is IDLE, waits, does a step, takes a share, or is a worker's failing. */
    private static void ticksAddUp() {
        for (long seed : SEEDS) {
            TileShares x = new TileShares(3, 3);
            x.share(0, 4, 2, 0);
            x.share(1, 9, 1, 0);
            x.share(2, 3, 3, 0);
            x.need(0, 2, 1, 7);
            x.failing(1, 1, 1, 1);
            x.failing(2, 1, 5, 1);
            x.failing(0, 1, 5, 1);
            x.run(3, seed);
            int failed = 3 - x.told(9);
            int begun = x.begun(0) + x.begun(1) + x.begun(2);
            CHECK.due("12: ticks", x.told(4), x.told(5) + x.told(6) + x.told(7) + begun + failed);
            CHECK.due("12: waits", x.told(6), x.waited(0, 1));
        }
    }

    private static void clearMakesAllAsAtFirst() {
        TileShares x = new TileShares(3, 10);
        String fresh = Check.stateOf(x);
        for (int i = 0; i < 3; i++) {
            x.share(i, 5, 5, 5);
        }
        x.need(1, 0, 0, 5);
        x.need(2, 3, 0, 5);
        x.failing(9, 0, 1, 2);
        x.stop(2);
        x.run(4, 20);
        CHECK.dueText("13: values before", "true", String.valueOf(x.told(11) > 0));
        CHECK.dueText("13: waits before", "true", String.valueOf(x.told(6) > 0));
        x.clear();
        CHECK.dueText("13: clear", fresh, Check.stateOf(x));
        TileShares twin = new TileShares(3, 10);
        CHECK.due("13: run", twin.run(3, 4), x.run(3, 4));
        CHECK.dueText("13: runs as a new one", Check.stateOf(twin), Check.stateOf(x));
        for (int i = 0; i < 3; i++) {
            CHECK.due("13: no needs", 0, x.free(i));
        }
        CHECK.due("13: failings from the first on", 1, x.failing(0, 0, 0, 1));
        x.clear();
        x.clear();
        CHECK.dueText("13: twice", fresh, Check.stateOf(x));
    }
}
