/** The sentences of each promise, with ordinary inputs, edges and wrong inputs, and its words beside them. */
final class PromisesTest {
    private static final Check CHECK = new Check();

    public static void main(String[] args) {
        newObjectHasSoMany();
        newObjectIsAsAtFirst();
        shareTellsStepsCellsAndStart();
        shareAnswersItsNeeds();
        shareRefusesStepsAndCells();
        shareLeavesWhatWasPut();
        needIsOneMore();
        needIsInFrontOfItsStep();
        needRefusesNumbers();
        needRefusesASeventh();
        freeDropsAll();
        freeLeavesOthers();
        failingTakesEdges();
        failingCountsTheSameThreeToo();
        failingRefusesNumbers();
        failingRefusesANinth();
        stopTellsWhereItWas();
        stopIsAtNone();
        stopRefuses();
        runAnswersItsEnd();
        runRefusesWorkers();
        atAnswersWhatWasPut();
        atRefuses();
        orderIsFromZeroOn();
        orderIsOfTheLatestRunHoweverItEnded();
        begunIsOfTheLatestRun();
        begunIsCounted();
        waitedIsOfTheLatestRun();
        waitedIsOfEachPair();
        waitedIsCountedInTicks();
        toldOfTheObject();
        toldOfTheLatestRun();
        toldBeforeARun();
        toldOfValues();
        toldOfAnotherWhat();
        toldTicksAddUp();
        clearMakesAllAsAtFirst();
        clearDropsWhatWasTold();
        clearMakesRoomForMore();
        CHECK.close("PromisesTest");
    }

    private static void newObjectHasSoMany() {
        CHECK.says("So many SHARES, 1 .. 16, and a ROOM of so many cells, 1 .. 1000"
                + " (others count as the nearest of these)");
        int[][] rows = {
            {1, 1, 1, 1}, {16, 1000, 16, 1000}, {7, 77, 7, 77}, {0, 0, 1, 1}, {17, 1001, 16, 1000},
            {0, 1001, 1, 1000}, {17, 0, 16, 1}, {2, 5000, 2, 1000}, {40, 3, 16, 3},
            {Due.FAR[0], Due.FAR[0], 1, 1}, {Due.FAR[1], Due.FAR[1], 16, 1000},
            {Due.FAR[0], Due.FAR[1], 1, 1000}, {Due.FAR[1], Due.FAR[0], 16, 1},
        };
        for (int[] row : rows) {
            TileShares x = new TileShares(row[0], row[1]);
            CHECK.due("shares of " + row[0], row[2], x.told(0));
            CHECK.due("room of " + row[1], row[3], x.told(1));
        }
    }

    private static void newObjectIsAsAtFirst() {
        CHECK.says("all is as at first");
        TileShares x = new TileShares(4, 9);
        int[] first = {4, 9, 0, TileShares.NONE, 0, 0, 0, 0, 0, 0, 0, 0};
        for (int what = 0; what < first.length; what++) {
            CHECK.due("told(" + what + ")", first[what], x.told(what));
        }
        CHECK.dueThrow("order(0)", Check.INDEX, () -> x.order(0));
        for (int i = 0; i < 4; i++) {
            int share = i;
            CHECK.dueThrow("at", Check.STATE, () -> x.at(share));
            CHECK.due("begun", 0, x.begun(i));
            CHECK.due("needs", 0, x.free(i));
            for (int k = 0; k < 4; k++) {
                CHECK.due("waited", 0, x.waited(i, k));
            }
        }
        CHECK.due("run", 0, x.run(1, 1));
        CHECK.due("a step of each", 4, x.told(7));
        CHECK.due("a cell at a time", 1, x.told(8));
        for (int i = 0; i < 4; i++) {
            CHECK.due("at(" + i + ")", Due.behind(i, 0), x.at(i));
        }
    }

    private static void shareTellsStepsCellsAndStart() {
        CHECK.says("A SHARE's STEPS, CELLS and START");
        TileShares x = new TileShares(2, 1000);
        x.share(0, 20, 1000, -77);
        x.share(1, 1, 1, Long.MAX_VALUE);
        CHECK.due("run", 0, x.run(1, 3));
        CHECK.due("steps", 21, x.told(7));
        CHECK.due("cells", 1000, x.told(8));
        CHECK.due("start of share 0", Due.behindSteps(-77, 20), x.at(0));
        CHECK.due("start of share 1", Due.behindSteps(Long.MAX_VALUE, 1), x.at(1));
        x.share(0, 1, 1, Long.MIN_VALUE);
        CHECK.due("run", 0, x.run(1, 3));
        CHECK.due("steps told again", 2, x.told(7));
        CHECK.due("cells told again", 1, x.told(8));
        CHECK.due("start told again", Due.behindSteps(Long.MIN_VALUE, 1), x.at(0));
    }

    private static void shareAnswersItsNeeds() {
        CHECK.says("how many NEEDS it has");
        TileShares x = new TileShares(3, 5);
        for (int count = 0; count <= 6; count++) {
            CHECK.due("share with " + count, count, x.share(1, 1 + count, 1, count));
            CHECK.due("another share", 0, x.share(0, 20, 5, count));
            if (count < 6) {
                x.need(1, 19, 2, 20);
            }
        }
        x.free(1);
        CHECK.due("share when they are gone", 0, x.share(1, 1, 1, 1));
    }

    private static void shareRefusesStepsAndCells() {
        CHECK.says("IllegalArgument: steps or cells");
        for (int steps : new int[] {0, 21, -1, Due.FAR[0], Due.FAR[1]}) {
            CHECK.dueRefused("steps " + steps, Check.ARGUMENT, Made::fullOfLife, x -> x.share(0, steps, 9, 9));
        }
        for (int cells : new int[] {0, 11, -1, Due.FAR[0], Due.FAR[1]}) {
            CHECK.dueRefused("cells " + cells, Check.ARGUMENT, Made::fullOfLife, x -> x.share(0, 9, cells, 9));
        }
        CHECK.dueRefused("both", Check.ARGUMENT, Made::fullOfLife, x -> x.share(0, 21, 11, 9));
        CHECK.dueRefused("no such share", Check.INDEX, Made::fullOfLife, x -> x.share(3, 9, 9, 9));
    }

    private static void shareLeavesWhatWasPut() {
        CHECK.says("A SHARE's value that was put");
        TileShares x = new TileShares(2, 5);
        x.run(2, 1);
        String before = Check.stateOf(x);
        x.share(0, 20, 5, 99);
        x.need(0, 0, 1, 1);
        CHECK.dueText("all is told of the latest run", before, Check.stateOf(x));
        CHECK.due("at(0)", Due.behind(0, 0), x.at(0));
    }

    private static void needIsOneMore() {
        CHECK.says("One NEED more, in front of step s: how many the SHARE has");
        TileShares x = new TileShares(16, 1);
        CHECK.due("the least", 1, x.need(0, 0, 15, 1));
        CHECK.due("the most", 2, x.need(0, 19, 15, 20));
        CHECK.due("the same again", 3, x.need(0, 19, 15, 20));
        for (int count = 4; count <= 6; count++) {
            CHECK.due("more", count, x.need(0, 5, count, 5));
        }
        CHECK.due("of the last share", 1, x.need(15, 5, 0, 5));
        CHECK.due("of each its own", 6, x.share(0, 1, 1, 1));
    }

    private static void needIsInFrontOfItsStep() {
        CHECK.says("One NEED more, in front of step s");
        TileShares x = new TileShares(3, 5);
        x.share(0, 2, 1, 100);
        x.share(1, 1, 1, 200);
        x.share(2, 2, 1, 300);
        x.need(2, 1, 0, 1);
        x.need(2, 0, 1, 1);
        x.need(2, 1, 0, 2);
        CHECK.due("run", 0, x.run(1, 1));
        CHECK.due("without needs", Due.behindSteps(100, 2), x.at(0));
        long first = Due.behind(300, 0, Due.behind(200, 0));
        CHECK.due("with needs", Due.behind(first, 1, Due.behindSteps(100, 1), Due.behindSteps(100, 2)), x.at(2));
    }

    private static void needRefusesNumbers() {
        CHECK.says("IllegalArgument: s, or m, or other is the SHARE itself");
        for (int s : new int[] {-1, 20, Due.FAR[0], Due.FAR[1]}) {
            CHECK.dueRefused("s " + s, Check.ARGUMENT, Made::fullOfLife, x -> x.need(0, s, 1, 1));
        }
        for (int m : new int[] {0, 21, -1, Due.FAR[0], Due.FAR[1]}) {
            CHECK.dueRefused("m " + m, Check.ARGUMENT, Made::fullOfLife, x -> x.need(0, 0, 1, m));
        }
        CHECK.dueRefused("the share itself", Check.ARGUMENT, Made::fullOfLife, x -> x.need(2, 0, 2, 1));
        CHECK.dueRefused("no such share", Check.INDEX, Made::fullOfLife, x -> x.need(3, 0, 2, 1));
        CHECK.dueRefused("no such other", Check.INDEX, Made::fullOfLife, x -> x.need(2, 0, 3, 1));
    }

    private static void needRefusesASeventh() {
        CHECK.says("UnsupportedOperation: it has 6");
        CHECK.dueRefused("a seventh", Check.UNSUPPORTED, Made::withAllNeeds, x -> x.need(0, 0, 2, 1));
        CHECK.dueRefused("the same as one before", Check.UNSUPPORTED, Made::withAllNeeds, x -> x.need(0, 1, 1, 1));
        TileShares x = Made.withAllNeeds();
        x.free(0);
        CHECK.due("there is room when they are gone", 1, x.need(0, 0, 2, 1));
    }

    private static void freeDropsAll() {
        CHECK.says("All NEEDS of a SHARE go: how many there were");
        for (int count = 0; count <= 6; count++) {
            TileShares x = new TileShares(2, 5);
            for (int k = 0; k < count; k++) {
                x.need(0, 0, 1, 20);
            }
            CHECK.due("run with " + count, count == 0 ? 0 : -2, x.run(2, 1));
            CHECK.due("free of " + count, count, x.free(0));
            CHECK.due("free again", 0, x.free(0));
            CHECK.due("run without", 0, x.run(2, 1));
            CHECK.due("no need is in its value", Due.behind(0, 0), x.at(0));
            CHECK.due("told anew", 1, x.need(0, 0, 1, 1));
        }
        for (int bad : new int[] {-1, 3, Due.FAR[0], Due.FAR[1]}) {
            CHECK.dueRefused("free(" + bad + ")", Check.INDEX, Made::fullOfLife, x -> x.free(bad));
        }
    }

    private static void freeLeavesOthers() {
        CHECK.says("All NEEDS of a SHARE go");
        TileShares x = new TileShares(3, 5);
        x.need(0, 0, 1, 20);
        x.need(1, 0, 2, 1);
        x.need(2, 0, 0, 1);
        CHECK.due("free", 1, x.free(0));
        CHECK.due("run", 0, x.run(3, 1));
        long two = Due.behind(2, 0, Due.behind(0, 0));
        CHECK.due("value of share 2", two, x.at(2));
        CHECK.due("value of share 1", Due.behind(1, 0, two), x.at(1));
        CHECK.due("needs of share 1", 1, x.free(1));
        CHECK.due("needs of share 2", 1, x.free(2));
    }

    private static void failingTakesEdges() {
        CHECK.says("this worker, 0 .. 15, in front of step s, 0 .. 19, of a SHARE, so many times in each RUN, 1 .. 9");
        TileShares x = new TileShares(2, 5);
        x.share(0, 20, 1, 0);
        CHECK.due("all the least", 1, x.failing(0, 0, 0, 1));
        CHECK.due("all the most", 2, x.failing(15, 1, 19, 9));
        CHECK.due("the last step", 3, x.failing(15, 0, 19, 1));
        CHECK.due("run of one, who fails at once", -1, x.run(1, 1));
        CHECK.due("no step", 0, x.told(7));
        CHECK.due("run of the last one first, who fails at last", 0, x.run(16, Due.seedForFirst(15L << 33)));
        CHECK.due("begun anew", 2, x.begun(0));
        CHECK.due("begun once", 1, x.begun(1));
        CHECK.due("steps", 19 + 20 + 1, x.told(7));
    }

    private static void failingCountsTheSameThreeToo() {
        CHECK.says("how many FAILINGS there are (one for the same three counts behind the others)");
        TileShares x = new TileShares(2, 5);
        CHECK.due("the first one", 1, x.failing(0, 0, 0, 1));
        for (int count = 2; count <= 8; count++) {
            CHECK.due("for the same three", count, x.failing(0, 0, 0, count));
            CHECK.due("told(2)", count, x.told(2));
        }
        CHECK.dueThrow("a ninth for the same three", Check.UNSUPPORTED, () -> x.failing(0, 0, 0, 1));
        CHECK.due("the worker fails once", 0, x.run(2, Due.seedForFirst(0)));
        CHECK.due("begun anew", 2, x.begun(0));
        CHECK.due("the other one lives", 1, x.told(9));
    }

    private static void failingRefusesNumbers() {
        CHECK.says("this worker, 0 .. 15, in front of step s, 0 .. 19, of a SHARE, so many times in each RUN, 1 .. 9");
        for (int worker : new int[] {-1, 16, Due.FAR[0], Due.FAR[1]}) {
            CHECK.dueRefused("worker " + worker, Check.ARGUMENT, Made::fullOfLife, x -> x.failing(worker, 0, 0, 1));
        }
        for (int s : new int[] {-1, 20, Due.FAR[0], Due.FAR[1]}) {
            CHECK.dueRefused("s " + s, Check.ARGUMENT, Made::fullOfLife, x -> x.failing(0, 0, s, 1));
        }
        for (int times : new int[] {0, 10, -1, Due.FAR[0], Due.FAR[1]}) {
            CHECK.dueRefused("times " + times, Check.ARGUMENT, Made::fullOfLife, x -> x.failing(0, 0, 0, times));
        }
        CHECK.dueRefused("no such share", Check.INDEX, Made::fullOfLife, x -> x.failing(0, 3, 0, 1));
    }

    private static void failingRefusesANinth() {
        CHECK.says("UnsupportedOperation: there are 8");
        CHECK.dueRefused("a ninth", Check.UNSUPPORTED, Made::withAllFailings, x -> x.failing(0, 0, 0, 1));
        TileShares x = new TileShares(1, 5);
        for (int worker = 0; worker < 8; worker++) {
            CHECK.due("failing", worker + 1, x.failing(worker, 0, 0, 1));
        }
        CHECK.dueThrow("a ninth", Check.UNSUPPORTED, () -> x.failing(8, 0, 0, 1));
        CHECK.due("it was not told", 0, x.run(9, Due.seedForFirst(8L << 33)));
        CHECK.due("worker 8 did all", 1, x.begun(0));
    }

    private static void stopTellsWhereItWas() {
        CHECK.says("STOP is at this SHARE, or at none (NONE): where it was");
        TileShares x = new TileShares(3, 5);
        CHECK.due("at first", TileShares.NONE, x.stop(2));
        CHECK.due("the last share", 2, x.stop(0));
        CHECK.due("the first share", 0, x.stop(0));
        CHECK.due("there again", 0, x.stop(TileShares.NONE));
        CHECK.due("none", TileShares.NONE, x.stop(TileShares.NONE));
        CHECK.due("none again", TileShares.NONE, x.stop(1));
        CHECK.due("told(3)", 1, x.told(3));
    }

    private static void stopIsAtNone() {
        CHECK.says("STOP is at this SHARE, or at none (NONE)");
        TileShares x = new TileShares(3, 5);
        x.stop(0);
        CHECK.due("run with a stop", 1, x.run(1, 1));
        CHECK.due("finished", 1, x.told(10));
        x.stop(TileShares.NONE);
        CHECK.due("run without", 0, x.run(1, 1));
        CHECK.due("finished", 3, x.told(10));
    }

    private static void stopRefuses() {
        CHECK.says("IndexOutOfBounds: there is no such share");
        for (int bad : new int[] {-2, 3, Due.FAR[0], Due.FAR[1]}) {
            CHECK.dueRefused("stop(" + bad + ")", Check.INDEX, Made::fullOfLife, x -> x.stop(bad));
        }
    }

    /** The end -3 is looked at by FewTicksTest. */
    private static void runAnswersItsEnd() {
        CHECK.says("A RUN: 0, 1, -1, -2, -3");
        TileShares x = new TileShares(2, 5);
        CHECK.due("all are finished", 0, x.run(1, 1));
        x.stop(0);
        CHECK.due("the stop is finished", 1, x.run(1, 1));
        x.failing(0, 0, 0, 1);
        CHECK.due("none lives", -1, x.run(1, 1));
        x.need(0, 0, 1, 1);
        CHECK.due("stuck", -2, x.run(1, 1));
    }

    private static void runRefusesWorkers() {
        CHECK.says("IllegalArgument: workers");
        for (int workers : new int[] {0, 17, -1, Due.FAR[0], Due.FAR[1]}) {
            CHECK.dueRefused("run of " + workers, Check.ARGUMENT, Made::fullOfLife, x -> x.run(workers, 1));
        }
        CHECK.due("the least", 0, new TileShares(2, 5).run(1, 1));
        CHECK.due("the most", 0, new TileShares(2, 5).run(16, 1));
    }

    private static void atAnswersWhatWasPut() {
        CHECK.says("A SHARE's value that was put");
        TileShares x = new TileShares(2, 10);
        x.share(1, 2, 1, -1);
        x.run(2, 1);
        CHECK.due("at(0)", 1, x.at(0));
        CHECK.due("at(1)", Due.behindSteps(-1, 2), x.at(1));
        x.share(1, 3, 1, -1);
        CHECK.due("before the next run", Due.behindSteps(-1, 2), x.at(1));
        x.run(2, 1);
        CHECK.due("behind the next run", Due.behindSteps(-1, 3), x.at(1));
    }

    private static void atRefuses() {
        CHECK.says("at(int share) throws IndexOutOfBoundsException, IllegalStateException");
        for (int bad : new int[] {-1, 3, Due.FAR[0], Due.FAR[1]}) {
            CHECK.dueRefused("at(" + bad + ")", Check.INDEX, Made::fullOfLife, x -> x.at(bad));
        }
        CHECK.dueRefused("at(2)", Check.STATE, Made::fullOfLife, x -> x.at(2));
        TileShares x = new TileShares(1, 1);
        CHECK.dueThrow("before a run", Check.STATE, () -> x.at(0));
        CHECK.dueThrow("no such share before a run", Check.INDEX, () -> x.at(1));
    }

    private static void orderIsFromZeroOn() {
        CHECK.says("the SHARE that was FINISHED as the k-th, from 0 on");
        TileShares x = new TileShares(3, 10);
        x.need(0, 0, 2, 1);
        x.need(2, 0, 1, 1);
        for (long seed : Due.SEEDS) {
            CHECK.due("run", 0, x.run(3, seed));
            CHECK.due("order(0)", 1, x.order(0));
            CHECK.due("order(1)", 2, x.order(1));
            CHECK.due("order(2)", 0, x.order(2));
        }
        for (int bad : new int[] {-1, 3, Due.FAR[0], Due.FAR[1]}) {
            CHECK.dueThrow("order(" + bad + ")", Check.INDEX, () -> x.order(bad));
        }
        CHECK.dueRefused("the first place that there is not", Check.INDEX, Made::fullOfLife, y -> y.order(2));
    }

    private static void orderIsOfTheLatestRunHoweverItEnded() {
        CHECK.says("Of the latest RUN, however it ended");
        TileShares x = new TileShares(3, 10);
        CHECK.dueThrow("before one", Check.INDEX, () -> x.order(0));
        x.run(1, 1);
        CHECK.due("by 0, the last one", 2, x.order(2));
        x.stop(1);
        CHECK.due("run", 1, x.run(1, 1));
        CHECK.due("by 1, the last one", 1, x.order(1));
        CHECK.dueThrow("by 1, the next one", Check.INDEX, () -> x.order(2));
        x.failing(0, 1, 0, 1);
        CHECK.due("run", -1, x.run(1, 1));
        CHECK.due("by -1, the last one", 0, x.order(0));
        CHECK.dueThrow("by -1, the next one", Check.INDEX, () -> x.order(1));
        x.need(1, 0, 2, 1);
        CHECK.due("run", -2, x.run(1, 1));
        CHECK.due("by -2, the last one", 0, x.order(0));
        CHECK.dueThrow("by -2, the next one", Check.INDEX, () -> x.order(1));
        x.need(0, 0, 2, 1);
        CHECK.due("run", -2, x.run(1, 1));
        CHECK.dueThrow("none was finished", Check.INDEX, () -> x.order(0));
    }

    private static void begunIsOfTheLatestRun() {
        CHECK.says("Of the latest RUN how often a SHARE was BEGUN");
        TileShares x = new TileShares(2, 10);
        CHECK.due("before one", 0, x.begun(0));
        x.run(1, 1);
        CHECK.due("once", 1, x.begun(1));
        x.run(1, 1);
        CHECK.due("counted anew", 1, x.begun(1));
        x.failing(0, 0, 0, 1);
        CHECK.due("run", -1, x.run(1, 1));
        CHECK.due("by -1", 1, x.begun(0));
        CHECK.due("not begun", 0, x.begun(1));
        for (int bad : new int[] {-1, 3, Due.FAR[0], Due.FAR[1]}) {
            CHECK.dueRefused("begun(" + bad + ")", Check.INDEX, Made::fullOfLife, y -> y.begun(bad));
        }
    }

    private static void begunIsCounted() {
        CHECK.says("how often a SHARE was BEGUN");
        TileShares x = new TileShares(2, 10);
        for (int worker = 0; worker < 8; worker++) {
            x.failing(worker, 0, 0, 1);
        }
        for (int workers = 1; workers <= 8; workers++) {
            CHECK.due("run", -1, x.run(workers, workers));
            CHECK.due("once for each worker", workers, x.begun(0));
            CHECK.due("once, if not the first one fails alone", workers > 1 ? 1 : 0, x.begun(1));
        }
    }

    private static void waitedIsOfTheLatestRun() {
        CHECK.says("Of the latest RUN in how many TICKS a SHARE waited for another one");
        TileShares x = new TileShares(2, 10);
        CHECK.due("before one", 0, x.waited(0, 1));
        x.share(1, 20, 1, 0);
        x.need(0, 0, 1, 20);
        x.run(2, 8);
        int waited = x.waited(0, 1);
        CHECK.dueTrue("it waited", waited > 0);
        CHECK.due("the other one did not", 0, x.waited(1, 0));
        CHECK.due("for itself", 0, x.waited(0, 0));
        x.run(2, 8);
        CHECK.due("counted anew", waited, x.waited(0, 1));
        x.free(0);
        x.run(2, 8);
        CHECK.due("it waits no more", 0, x.waited(0, 1));
        for (int bad : new int[] {-1, 3, Due.FAR[0], Due.FAR[1]}) {
            CHECK.dueRefused("waited(" + bad + ", 0)", Check.INDEX, Made::fullOfLife, y -> y.waited(bad, 0));
            CHECK.dueRefused("waited(0, " + bad + ")", Check.INDEX, Made::fullOfLife, y -> y.waited(0, bad));
            CHECK.dueRefused("waited of both", Check.INDEX, Made::fullOfLife, y -> y.waited(bad, bad));
        }
    }

    private static void waitedIsOfEachPair() {
        CHECK.says("a SHARE waited for another one");
        for (int pair = 0; pair < 9; pair++) {
            int share = pair / 3;
            int other = pair % 3;
            if (share != other) {
                TileShares x = new TileShares(3, 5);
                x.share(other, 20, 1, 0);
                x.need(share, 0, other, 20);
                CHECK.due("run", 0, x.run(3, 1));
                CHECK.dueTrue(share + " waited for " + other, x.waited(share, other) > 0);
                CHECK.due("no other one waited", x.told(6), x.waited(share, other));
                x.free(share);
                CHECK.due("run", 0, x.run(3, 1));
                CHECK.due(share + " for " + other + " counted anew", 0, x.waited(share, other));
                x.need(share, 0, other, 20);
                x.run(3, 1);
                x.clear();
                CHECK.due(share + " for " + other + " as at first", 0, x.waited(share, other));
            }
        }
    }

    /** One of two workers has share 0, which waits till the other one has done 20 steps of share 1. */
    private static void waitedIsCountedInTicks() {
        CHECK.says("in how many TICKS a SHARE waited for another one");
        for (long seed : Due.SEEDS) {
            TileShares x = new TileShares(2, 10);
            x.share(1, 20, 1, 0);
            x.need(0, 0, 1, 20);
            long number = Due.next(seed);
            int first = Due.place(number, 2);
            int moves = 0;
            int waits = 0;
            while (moves < 21) {
                number = Due.next(number);
                if (Due.place(number, 2) == first) {
                    waits++;
                } else {
                    moves++;
                }
            }
            CHECK.due("run", 0, x.run(2, seed));
            CHECK.due("waited", waits, x.waited(0, 1));
            CHECK.due("told(6)", waits, x.told(6));
        }
    }

    private static void toldOfTheObject() {
        CHECK.says("SHARES (what = 0), ROOM (1), FAILINGS (2), where STOP is (3)");
        TileShares x = new TileShares(3, 10);
        for (int count = 1; count <= 8; count++) {
            x.failing(0, 0, 0, 1);
            CHECK.due("told(2)", count, x.told(2));
        }
        for (int stop = -1; stop < 3; stop++) {
            x.stop(stop);
            CHECK.due("told(3)", stop, x.told(3));
        }
        x.run(1, 1);
        int[] due = {3, 10, 8, 2};
        for (int what = 0; what < due.length; what++) {
            CHECK.due("told(" + what + ") behind a run", due[what], x.told(what));
        }
    }

    private static void toldOfTheLatestRun() {
        CHECK.says("of the latest RUN: TICKS (4), IDLE ones (5), those in which a worker WAITED (6),"
                + " steps that were done (7), the most cells in use (8), workers that live at its end (9),"
                + " SHARES that were FINISHED (10)");
        TileShares x = new TileShares(3, 10);
        x.share(0, 5, 7, 0);
        x.share(1, 1, 8, 0);
        x.failing(0, 2, 0, 1);
        CHECK.due("run", -1, x.run(1, 1));
        told(x, 6 + 2 + 2, 0, 0, 6, 8, 0, 2);
        x.stop(0);
        CHECK.due("run", 1, x.run(1, 1));
        told(x, 6, 0, 0, 5, 7, 1, 1);
        x.need(0, 0, 1, 1);
        CHECK.due("run", -2, x.run(16, 1));
        told(x, 1, 0, 0, 0, 7, 16, 0);
    }

    private static void told(TileShares x, int... due) {
        for (int k = 0; k < due.length; k++) {
            CHECK.due("told(" + (4 + k) + ")", due[k], x.told(4 + k));
        }
    }

    private static void toldBeforeARun() {
        CHECK.says("0 before one");
        TileShares x = new TileShares(16, 1000);
        told(x, 0, 0, 0, 0, 0, 0, 0);
        x.share(0, 20, 1000, 1);
        x.need(0, 0, 1, 1);
        x.failing(0, 0, 0, 1);
        x.stop(0);
        CHECK.dueThrow("a run that is refused", Check.ARGUMENT, () -> x.run(17, 1));
        told(x, 0, 0, 0, 0, 0, 0, 0);
    }

    private static void toldOfValues() {
        CHECK.says("how many SHARES have a value (11)");
        TileShares x = new TileShares(16, 5);
        CHECK.due("none", 0, x.told(11));
        for (int stop = 0; stop < 16; stop++) {
            x.stop(stop);
            x.run(1, 1);
            CHECK.due("more", stop + 1, x.told(11));
        }
        x.stop(0);
        x.run(1, 1);
        CHECK.due("fewer", 1, x.told(11));
        x.failing(0, 0, 0, 1);
        CHECK.due("run", -1, x.run(1, 1));
        CHECK.due("as before", 1, x.told(11));
    }

    private static void toldOfAnotherWhat() {
        CHECK.says("NONE for another what");
        for (int what : new int[] {-1, -2, Due.FAR[0], 12, 13, Due.FAR[1]}) {
            CHECK.due("told(" + what + ") of a new one", TileShares.NONE, new TileShares(3, 5).told(what));
            CHECK.due("told(" + what + ")", TileShares.NONE, Made.fullOfLife().told(what));
        }
    }

    /** Each TICK is IDLE, waits, does a step, takes a share, or is a worker's failing. */
    private static void toldTicksAddUp() {
        CHECK.says("TICKS (4), IDLE ones (5), those in which a worker WAITED (6), steps that were done (7)");
        for (long seed : Due.SEEDS) {
            TileShares x = new TileShares(3, 3);
            x.share(0, 4, 2, 0);
            x.share(1, 9, 1, 0);
            x.share(2, 3, 3, 0);
            x.need(0, 2, 1, 7);
            x.failing(1, 1, 1, 1);
            x.failing(2, 1, 5, 1);
            x.failing(0, 1, 5, 1);
            x.run(3, seed);
            int failed = 3 - x.told(9);
            int begun = x.begun(0) + x.begun(1) + x.begun(2);
            CHECK.due("ticks", x.told(4), x.told(5) + x.told(6) + x.told(7) + begun + failed);
            CHECK.due("waits", x.told(6), x.waited(0, 1));
        }
    }

    private static void clearMakesAllAsAtFirst() {
        CHECK.says("All as at first");
        TileShares x = Made.fullOfLife();
        TileShares fresh = new TileShares(3, 10);
        x.clear();
        CHECK.dueText("all behind clear", Check.stateOf(fresh), Check.stateOf(x));
        x.clear();
        CHECK.dueText("all behind clear again", Check.stateOf(fresh), Check.stateOf(x));
        for (int workers = 1; workers <= 3; workers++) {
            CHECK.due("run", fresh.run(workers, 4), x.run(workers, 4));
            CHECK.dueText("all behind a run", Check.stateOf(fresh), Check.stateOf(x));
        }
        fresh.clear();
        CHECK.dueText("a run alone is cleared too", Check.stateOf(new TileShares(3, 10)), Check.stateOf(fresh));
    }

    private static void clearDropsWhatWasTold() {
        CHECK.says("All as at first");
        TileShares x = new TileShares(2, 10);
        x.share(0, 20, 10, 99);
        x.need(0, 0, 1, 20);
        x.failing(0, 1, 0, 1);
        x.stop(1);
        x.clear();
        CHECK.due("shares stay", 2, x.told(0));
        CHECK.due("room stays", 10, x.told(1));
        CHECK.due("failings", 0, x.told(2));
        CHECK.due("stop", TileShares.NONE, x.told(3));
        CHECK.due("needs", 0, x.free(0));
        CHECK.due("run", 0, x.run(1, 1));
        CHECK.due("steps", 2, x.told(7));
        CHECK.due("cells", 1, x.told(8));
        CHECK.due("start", Due.behind(0, 0), x.at(0));
        x.clear();
        CHECK.due("values", 0, x.told(11));
        CHECK.dueThrow("at", Check.STATE, () -> x.at(0));
        CHECK.dueThrow("order", Check.INDEX, () -> x.order(0));
        CHECK.due("begun", 0, x.begun(0));
    }

    private static void clearMakesRoomForMore() {
        CHECK.says("All as at first");
        TileShares needs = Made.withAllNeeds();
        needs.clear();
        for (int count = 1; count <= 6; count++) {
            CHECK.due("need", count, needs.need(0, 0, 1, 1));
        }
        CHECK.dueThrow("a seventh", Check.UNSUPPORTED, () -> needs.need(0, 0, 1, 1));
        TileShares failings = Made.withAllFailings();
        failings.clear();
        for (int count = 1; count <= 8; count++) {
            CHECK.due("failing", count, failings.failing(0, 0, 0, 1));
        }
        CHECK.dueThrow("a ninth", Check.UNSUPPORTED, () -> failings.failing(0, 0, 0, 1));
    }
}
