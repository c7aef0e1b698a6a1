import java.util.ArrayList;
import java.util.List;

/**
 * The sentences under "Terms" on the course of a run and its ends, each with its words beside it.
 * What is due is worked out by hand, and holds for every seed where several workers have a part in
 * it, or is followed tick by tick in numbers without a bound.
 */
final class CourseTest {
    private static final Check CHECK = new Check();
    /** By this seed the first TICK is worker 0's, however many there are. */
    private static final long ZERO_FIRST = Due.seedForFirst(0);

    public static void main(String[] args) {
        workersAreOneToSixteen();
        workersCountFromZero();
        seedIsAnyNumber();
        queueHasAllSharesByNumber();
        noCellIsInUseAtFirst();
        noStepIsDoneAtFirst();
        tickHasTheNextNumber();
        tickIsOfTheWorkerAtThePlace();
        placesAreOfThoseThatLive();
        takesIfThereIsOne();
        takesIfTheRoomIsNotExceeded();
        takesTheFirstAlone();
        takingCountsAndUsesCells();
        elseTheTickIsIdle();
        waitsForTheFirstSuchOne();
        waitsForNeedsOfThisStepAlone();
        waitsBeforeItFails();
        failsByItsOwnFailingAlone();
        failsInEachRun();
        failingTellsTheLastStep();
        failedWorkerLivesNoMore();
        failedShareHasDoneNoStep();
        failedShareFreesItsCells();
        failedShareComesToTheEnd();
        doesTheStepElse();
        finishedShareFreesCellsAndWorker();
        finishedShareStaysDone();
        endIsAskedBeforeTheFirstTick();
        endsWhenAllAreFinished();
        endsWhenTheStopIsFinished();
        endsWhenNoWorkerLives();
        endsWhenStuck();
        endsByTheFirstOfThese();
        goesOnBelowTheLastTick();
        putsTheValuesOfThoseFinished();
        keepsTheValuesElse();
        CHECK.close("CourseTest");
    }

    private static void workersAreOneToSixteen() {
        CHECK.says("A RUN has WORKERS 0 .. w - 1, w 1 .. 16, that all live");
        for (int w = 1; w <= 16; w++) {
            TileShares x = new TileShares(3, 5);
            CHECK.due("run of " + w, 0, x.run(w, 1));
            CHECK.due("told(9) of " + w, w, x.told(9));
        }
        for (int w : new int[] {0, -1, Due.FAR[0], 17, 18, Due.FAR[1]}) {
            CHECK.dueRefused("run of " + w, Check.ARGUMENT, Made::fullOfLife, x -> x.run(w, 1));
        }
    }

    private static void workersCountFromZero() {
        CHECK.says("WORKERS 0 .. w - 1");
        TileShares x = new TileShares(1, 5);
        for (int worker = 0; worker < 8; worker++) {
            x.failing(worker, 0, 0, 1);
        }
        for (long seed : Due.SEEDS) {
            CHECK.due("run of 7, who all fail", -1, x.run(7, seed));
            CHECK.due("begun by each of 7", 7, x.begun(0));
            CHECK.due("run of 8, who all fail", -1, x.run(8, seed));
            CHECK.due("begun by each of 8", 8, x.begun(0));
            CHECK.due("run of 9, of whom the last one does not", 0, x.run(9, seed));
        }
        TileShares last = new TileShares(1, 5);
        last.failing(15, 0, 0, 1);
        CHECK.due("the last of 16 comes first and fails", 0, last.run(16, Due.seedForFirst(15L << 33)));
        CHECK.due("the others live", 15, last.told(9));
        CHECK.due("no worker 15 is among 15", 0, last.run(15, Due.seedForFirst(15L << 33)));
        CHECK.due("all live", 15, last.told(9));
    }

    private static void seedIsAnyNumber() {
        CHECK.says("and a SEED x");
        for (long seed : Due.SEEDS) {
            TileShares x = new TileShares(2, 5);
            CHECK.due("run by " + seed, 0, x.run(16, seed));
            CHECK.due("run by " + seed + " again", 0, x.run(3, seed));
        }
    }

    private static void queueHasAllSharesByNumber() {
        CHECK.says("The QUEUE has all SHARES by number");
        TileShares x = new TileShares(16, 1);
        for (int run = 0; run < 3; run++) {
            CHECK.due("run", 0, x.run(1, run));
            for (int k = 0; k < 16; k++) {
                CHECK.due("order(" + k + ")", k, x.order(k));
            }
        }
    }

    private static void noCellIsInUseAtFirst() {
        CHECK.says("no cell is in use");
        TileShares x = new TileShares(2, 10);
        x.share(0, 1, 10, 0);
        x.need(0, 0, 1, 1);
        CHECK.due("stuck, with all cells in use", -2, x.run(2, 1));
        CHECK.due("most cells", 10, x.told(8));
        x.free(0);
        CHECK.due("they are free in the next run", 0, x.run(2, 1));
        CHECK.due("most cells again", 10, x.told(8));
        x.share(0, 1, 2, 0);
        CHECK.due("run", 0, x.run(1, 1));
        CHECK.due("the most is of this run", 2, x.told(8));
    }

    private static void noStepIsDoneAtFirst() {
        CHECK.says("none has DONE a step");
        TileShares x = new TileShares(2, 10);
        x.share(0, 5, 1, 0);
        x.need(1, 0, 0, 5);
        for (int run = 0; run < 2; run++) {
            CHECK.due("run", 0, x.run(1, run));
            CHECK.due("all steps are done anew", 6, x.told(7));
        }
        x.need(0, 0, 1, 1);
        CHECK.due("what was done before counts for none", -2, x.run(2, 1));
        CHECK.due("no step", 0, x.told(7));
    }

    /** One of three workers has the only share: it moves in each TICK that it has, and others are IDLE. */
    private static void tickHasTheNextNumber() {
        CHECK.says("x becomes x times 6364136223846793005 and 1442695040888963407 more, modulo 2^64");
        for (long seed : Due.SEEDS) {
            TileShares x = new TileShares(1, 1);
            x.share(0, 20, 1, 0);
            CHECK.due("run", 0, x.run(3, seed));
            int ticks = ticksOfOneAtATime(seed, 3, 1, 20);
            CHECK.due("ticks", ticks, x.told(4));
            CHECK.due("idle ones", ticks - 21, x.told(5));
        }
    }

    /** How many TICKS there are when the ROOM has place for one SHARE at a time. */
    private static int ticksOfOneAtATime(long seed, int workers, int shares, int steps) {
        long x = seed;
        int ticks = 0;
        for (int share = 0; share < shares; share++) {
            x = Due.next(x);
            ticks++;
            int holder = Due.place(x, workers);
            int left = steps;
            while (left > 0) {
                x = Due.next(x);
                ticks++;
                left -= Due.place(x, workers) == holder ? 1 : 0;
            }
        }
        return ticks;
    }

    private static void tickIsOfTheWorkerAtThePlace() {
        CHECK.says("the one whose place is x shifted right by 33 bits (with 0 coming in) modulo how many they are");
        for (int w = 1; w <= 16; w++) {
            firstTickIsOf(0, w, 0);
            firstTickIsOf(0, w, (1L << 33) - 1);
            firstTickIsOf(1 % w, w, 1L << 33);
            firstTickIsOf(1 % w, w, (2L << 33) - 1);
            firstTickIsOf(w - 1, w, (long) (w - 1) << 33);
            firstTickIsOf(0, w, (long) w << 33);
            firstTickIsOf(((1 << 30) - 1) % w, w, Long.MAX_VALUE);
            firstTickIsOf((1 << 30) % w, w, Long.MIN_VALUE);
            firstTickIsOf(Integer.MAX_VALUE % w, w, -1);
        }
    }

    /** Who takes the only share is seen by a FAILING that is told of this worker alone. */
    private static void firstTickIsOf(int due, int workers, long x) {
        for (int worker = 0; worker < workers; worker++) {
            TileShares object = new TileShares(1, 1);
            object.failing(worker, 0, 0, 1);
            object.run(workers, Due.seedForFirst(x));
            CHECK.due("workers without worker " + worker + " of " + workers + " by " + x,
                    worker == due ? workers - 1 : workers, object.told(9));
        }
    }

    /** One worker behind the other takes the only share and fails. */
    private static void placesAreOfThoseThatLive() {
        CHECK.says("the worker that has the TICK is, among those that live, by number from 0 on");
        for (int w = 1; w <= 16; w++) {
            for (long seed : Due.SEEDS) {
                TileShares object = new TileShares(1, 1);
                List<Integer> living = new ArrayList<>();
                for (int worker = 0; worker < w; worker++) {
                    living.add(worker);
                }
                long x = seed;
                int ticks = 0;
                for (int failed = 0; failed < Math.min(8, w - 1); failed++) {
                    x = Due.next(x);
                    Integer holder = living.get(Due.place(x, living.size()));
                    ticks++;
                    do {
                        x = Due.next(x);
                        ticks++;
                    } while (!living.get(Due.place(x, living.size())).equals(holder));
                    object.failing(holder, 0, 0, 1);
                    living.remove(holder);
                }
                CHECK.due("run of " + w, 0, object.run(w, seed));
                CHECK.due("living of " + w, living.size(), object.told(9));
                CHECK.due("begun by each", w - living.size() + 1, object.begun(0));
                CHECK.due("ticks", ticks + ticksOfOneAtATime(x, living.size(), 1, 1), object.told(4));
            }
        }
    }

    private static void takesIfThereIsOne() {
        CHECK.says("If it has no SHARE: it TAKES the first one of the QUEUE, if there is one");
        for (long seed : Due.SEEDS) {
            TileShares x = new TileShares(1, 5);
            x.share(0, 20, 1, 0);
            CHECK.due("run of more workers than shares", 0, x.run(16, seed));
            CHECK.due("it is taken once", 1, x.begun(0));
            CHECK.due("all other ticks are idle", x.told(4) - 21, x.told(5));
        }
    }

    private static void takesIfTheRoomIsNotExceeded() {
        CHECK.says("and its CELLS with those in use are not above ROOM");
        int[][] rows = {{10, 6, 3, 0}, {10, 6, 4, 0}, {10, 6, 5, -2}, {2, 1, 1, 0}, {1, 1, 1, -2},
            {1000, 999, 1, 0}, {1000, 1000, 1, -2}, {1000, 1000, 1000, -2}};
        for (int[] row : rows) {
            for (long seed : Due.SEEDS) {
                TileShares x = new TileShares(2, row[0]);
                x.share(0, 1, row[1], 0);
                x.share(1, 1, row[2], 0);
                x.need(0, 0, 1, 1);
                CHECK.due(row[1] + " and " + row[2] + " cells of " + row[0], row[3], x.run(4, seed));
                CHECK.due("most cells", row[3] == 0 ? row[1] + row[2] : row[1], x.told(8));
            }
        }
    }

    private static void takesTheFirstAlone() {
        CHECK.says("it TAKES the first one of the QUEUE");
        for (long seed : Due.SEEDS) {
            TileShares x = new TileShares(3, 10);
            x.share(0, 1, 6, 0);
            x.share(1, 1, 5, 0);
            x.need(0, 0, 2, 1);
            CHECK.due("the second one would fit, but is not the first", -2, x.run(3, seed));
            CHECK.due("the first one is not begun", 0, x.begun(1));
            CHECK.due("nor the second one", 0, x.begun(2));
            x.share(1, 1, 4, 0);
            CHECK.due("the first one fits, then the second one", 0, x.run(3, seed));
        }
    }

    private static void takingCountsAndUsesCells() {
        CHECK.says("it is BEGUN once more, and its CELLS are in use");
        TileShares x = new TileShares(2, 10);
        x.share(0, 1, 7, 0);
        x.need(0, 0, 1, 1);
        CHECK.due("stuck behind its first tick", -2, x.run(1, 1));
        CHECK.due("begun", 1, x.begun(0));
        CHECK.due("not begun", 0, x.begun(1));
        CHECK.due("cells", 7, x.told(8));
        CHECK.due("the tick is not idle", 0, x.told(5));
    }

    private static void elseTheTickIsIdle() {
        CHECK.says("else the TICK is IDLE");
        for (long seed : Due.SEEDS) {
            for (int shares = 1; shares <= 3; shares++) {
                TileShares x = new TileShares(shares, 1);
                for (int i = 0; i < shares; i++) {
                    x.share(i, 4, 1, 0);
                }
                CHECK.due("run", 0, x.run(5, seed));
                CHECK.due("no room, and at last an empty queue, of " + shares,
                        ticksOfOneAtATime(seed, 5, shares, 4) - 5 * shares, x.told(5));
                CHECK.due("none waits", 0, x.told(6));
            }
        }
    }

    private static void waitsForTheFirstSuchOne() {
        CHECK.says("it WAITS: for the first such one, in the order in which they were told");
        for (long seed : Due.SEEDS) {
            TileShares x = new TileShares(3, 10);
            x.share(2, 20, 1, 0);
            x.need(1, 0, 2, 20);
            x.need(1, 0, 0, 1);
            CHECK.due("run", 0, x.run(2, seed));
            CHECK.dueTrue("it waited", x.told(6) > 0);
            CHECK.due("for the one told first", x.told(6), x.waited(1, 2));
            CHECK.due("not for the one told next", 0, x.waited(1, 0));
            x.free(1);
            x.need(1, 0, 0, 1);
            x.need(1, 0, 2, 20);
            CHECK.due("run", 0, x.run(2, seed));
            CHECK.dueTrue("for the one told next, when the first one is met", x.waited(1, 2) > 0);
            CHECK.due("for both", x.told(6), x.waited(1, 0) + x.waited(1, 2));
        }
    }

    private static void waitsForNeedsOfThisStepAlone() {
        CHECK.says("If it has one that has DONE s steps: if for a NEED of step s the other SHARE has not DONE m steps,"
                + " it WAITS");
        for (long seed : Due.SEEDS) {
            TileShares x = new TileShares(3, 10);
            x.share(0, 2, 1, 0);
            x.share(1, 20, 1, 0);
            x.need(0, 1, 2, 2);
            x.need(0, 0, 1, 20);
            CHECK.due("never met before step 1", -2, x.run(3, seed));
            CHECK.dueTrue("before step 0 it waits for share 1", x.waited(0, 1) > 0);
            CHECK.due("steps", 1 + 20 + 1, x.told(7));
        }
    }

    private static void waitsBeforeItFails() {
        CHECK.says("Else, if a FAILING is told of it");
        TileShares x = new TileShares(2, 5);
        x.need(0, 0, 1, 1);
        x.failing(0, 0, 0, 1);
        CHECK.due("it waits, so it does not fail", -2, x.run(1, 1));
        CHECK.due("it lives", 1, x.told(9));
        TileShares y = new TileShares(2, 5);
        y.need(1, 0, 0, 1);
        y.failing(0, 1, 0, 1);
        CHECK.due("its need is met, so it fails", -1, y.run(1, 1));
        CHECK.due("no tick waits or is idle", 0, y.told(5) + y.told(6));
        CHECK.due("one takes, one does a step, one takes, one fails", 4, y.told(4));
    }

    private static void failsByItsOwnFailingAlone() {
        CHECK.says("if a FAILING is told of it, this SHARE and step");
        int[][] rows = {{0, 1, 0, 1}, {0, 1, 1, 2}, {0, 1, 2, 0}, {1, 1, 1, 0}, {0, 0, 1, 0}, {0, 2, 1, 0}};
        for (int[] row : rows) {
            TileShares x = new TileShares(3, 5);
            x.share(1, 2, 1, 0);
            x.failing(row[0], row[1], row[2], 9);
            String told = "worker " + row[0] + ", share " + row[1] + ", step " + row[2];
            CHECK.due(told, row[3] > 0 ? -1 : 0, x.run(1, 1));
            CHECK.due("steps by " + told, row[3] > 0 ? row[3] : 4, x.told(7));
        }
    }

    private static void failsInEachRun() {
        CHECK.says("that still has times left, that has one less");
        for (int times = 1; times <= 9; times++) {
            TileShares x = new TileShares(1, 5);
            x.failing(0, 0, 0, times);
            for (int run = 0; run < 12; run++) {
                CHECK.due("run " + run + " with " + times + " times", -1, x.run(1, run));
            }
            CHECK.due("it stays told", 1, x.told(2));
        }
    }

    private static void failingTellsTheLastStep() {
        CHECK.says("if a FAILING is told of it, this SHARE and step");
        TileShares x = new TileShares(1, 5);
        x.share(0, 20, 1, 0);
        x.failing(0, 0, 19, 1);
        CHECK.due("before its last step", -1, x.run(1, 1));
        CHECK.due("steps", 19, x.told(7));
        CHECK.due("ticks", 21, x.told(4));
        x.share(0, 19, 1, 0);
        CHECK.due("before a step that it has not", 0, x.run(1, 1));
        CHECK.due("steps", 19, x.told(7));
    }

    private static void failedWorkerLivesNoMore() {
        CHECK.says("the worker FAILS: it lives no more");
        TileShares x = new TileShares(2, 5);
        x.failing(0, 0, 0, 9);
        CHECK.due("the only one", -1, x.run(1, 1));
        CHECK.due("none lives", 0, x.told(9));
        CHECK.due("one of two", 0, x.run(2, ZERO_FIRST));
        CHECK.due("one lives", 1, x.told(9));
        CHECK.due("begun by both", 2, x.begun(0));
        CHECK.due("all live at the next run's first tick", 0, x.run(2, Due.seedForFirst(1L << 33)));
        CHECK.due("and the other one takes it", 1, x.begun(0));
    }

    /** Share 1 has room only when share 0 has failed, and finds none of its two steps done. */
    private static void failedShareHasDoneNoStep() {
        CHECK.says("the SHARE has DONE no step");
        TileShares x = new TileShares(2, 5);
        x.share(0, 3, 5, 70);
        x.share(1, 1, 5, 0);
        x.need(1, 0, 0, 1);
        x.failing(0, 0, 2, 1);
        CHECK.due("what needs a step of it must wait", -2, x.run(2, ZERO_FIRST));
        CHECK.due("share 1 was begun", 1, x.begun(1));
        CHECK.due("steps", 2, x.told(7));
        x.free(1);
        CHECK.due("without that need", 0, x.run(2, ZERO_FIRST));
        CHECK.due("all its steps are done anew", 2 + 1 + 3, x.told(7));
        CHECK.due("its value is as if it had not failed", Due.behindSteps(70, 3), x.at(0));
    }

    /** Share 1 has room only when share 0 has none, and share 0 comes behind it. */
    private static void failedShareFreesItsCells() {
        CHECK.says("its CELLS are in use no more, and it comes to the end of the QUEUE");
        for (long seed : Due.SEEDS) {
            TileShares x = new TileShares(2, 5);
            x.share(0, 3, 5, 0);
            x.share(1, 4, 5, 0);
            x.failing(0, 0, 2, 9);
            x.failing(1, 0, 2, 9);
            CHECK.due("run", -1, x.run(2, seed));
            CHECK.due("begun anew", 2, x.begun(0));
            CHECK.due("begun between", 1, x.begun(1));
            CHECK.due("finished", 1, x.told(10));
            CHECK.due("steps, the lost ones too", 2 + 4 + 2, x.told(7));
            CHECK.due("most cells", 5, x.told(8));
        }
    }

    private static void failedShareComesToTheEnd() {
        CHECK.says("and it comes to the end of the QUEUE");
        for (int shares : new int[] {1, 2, 3, 16}) {
            TileShares x = new TileShares(shares, 5);
            x.failing(0, 0, 0, 1);
            CHECK.due("run", 0, x.run(2, ZERO_FIRST));
            for (int k = 0; k < shares; k++) {
                CHECK.due("order(" + k + ") of " + shares, (k + 1) % shares, x.order(k));
            }
        }
    }

    private static void doesTheStepElse() {
        CHECK.says("Else it does the step; when all its STEPS are DONE, the SHARE is FINISHED");
        TileShares x = new TileShares(2, 5);
        x.share(0, 20, 1, 0);
        for (int s = 1; s < 20; s++) {
            x.free(0);
            x.need(0, s, 1, 1);
            CHECK.due("run to step " + s, -2, x.run(1, 1));
            CHECK.due("steps", s, x.told(7));
            CHECK.due("it is not finished", 0, x.told(10));
        }
        x.free(0);
        CHECK.due("run to its end", 0, x.run(1, 1));
        CHECK.due("steps", 21, x.told(7));
        CHECK.due("it is finished", 0, x.order(0));
    }

    private static void finishedShareFreesCellsAndWorker() {
        CHECK.says("the SHARE is FINISHED, its CELLS are in use no more, and the worker has none");
        TileShares x = new TileShares(16, 1000);
        for (int i = 0; i < 16; i++) {
            x.share(i, 2, 1000, i);
        }
        CHECK.due("one worker does all, one behind the other", 0, x.run(1, 1));
        CHECK.due("ticks", 16 * 3, x.told(4));
        CHECK.due("most cells", 1000, x.told(8));
    }

    private static void finishedShareStaysDone() {
        CHECK.says("A SHARE that is FINISHED has DONE all its STEPS to the RUN's end");
        TileShares x = new TileShares(3, 5);
        x.share(0, 20, 1, 0);
        x.share(1, 20, 1, 0);
        x.share(2, 20, 1, 0);
        x.need(1, 19, 0, 20);
        x.need(2, 0, 0, 20);
        x.need(2, 19, 0, 20);
        CHECK.due("needs are met when it is long finished", 0, x.run(1, 1));
        CHECK.due("no tick waits", 0, x.told(6));
    }

    private static void endIsAskedBeforeTheFirstTick() {
        CHECK.says("Behind each TICK, and before the first one, the RUN ends by the first of these");
        TileShares x = new TileShares(1, 1);
        x.stop(0);
        for (int run = 0; run < 3; run++) {
            CHECK.due("run, whatever was finished before it", 0, x.run(1, run));
            CHECK.due("the fewest ticks", 2, x.told(4));
        }
    }

    private static void endsWhenAllAreFinished() {
        CHECK.says("all are FINISHED: 0");
        for (int shares = 1; shares <= 16; shares++) {
            TileShares x = new TileShares(shares, 1);
            CHECK.due("run", 0, x.run(1, 1));
            CHECK.due("finished", shares, x.told(10));
            CHECK.due("it ends behind the last step", 2 * shares, x.told(4));
        }
    }

    private static void endsWhenTheStopIsFinished() {
        CHECK.says("the SHARE with STOP is FINISHED: 1");
        for (int stop = 0; stop < 15; stop++) {
            TileShares x = new TileShares(16, 1);
            x.stop(stop);
            CHECK.due("run", 1, x.run(1, 1));
            CHECK.due("it ends behind its last step", 2 * stop + 2, x.told(4));
            CHECK.due("finished", stop + 1, x.told(10));
        }
        TileShares x = new TileShares(2, 1);
        x.share(0, 2, 1, 0);
        x.stop(0);
        x.failing(0, 0, 1, 1);
        CHECK.due("it has done a step, but is not finished", -1, x.run(1, 1));
    }

    private static void endsWhenNoWorkerLives() {
        CHECK.says("no worker lives: -1");
        TileShares x = new TileShares(9, 1);
        for (int worker = 0; worker < 8; worker++) {
            x.failing(worker, worker, 0, 1);
        }
        CHECK.due("the only one", -1, x.run(1, 1));
        CHECK.due("it ends behind the tick in which it fails", 2, x.told(4));
        for (long seed : Due.SEEDS) {
            TileShares y = new TileShares(2, 5);
            y.failing(0, 1, 0, 1);
            y.failing(1, 1, 0, 1);
            CHECK.due("two of two", -1, y.run(2, seed));
            CHECK.due("share 0 was finished", 1, y.told(10));
            CHECK.due("two of three", 0, y.run(3, seed));
        }
    }

    private static void endsWhenStuck() {
        CHECK.says("STUCK, -2: each worker that lives has a SHARE whose next step it must WAIT for,"
                + " or has none and could not TAKE one");
        TileShares x = new TileShares(2, 10);
        x.share(0, 2, 1, 0);
        x.need(0, 1, 1, 1);
        CHECK.due("the only worker must wait", -2, x.run(1, 1));
        CHECK.due("it ends behind the tick before that", 2, x.told(4));
        CHECK.due("no tick waits", 0, x.told(6));
        for (long seed : Due.SEEDS) {
            TileShares y = new TileShares(2, 10);
            y.share(0, 1, 9, 0);
            y.need(0, 0, 1, 1);
            CHECK.due("another one can take", 0, y.run(2, seed));
            y.share(1, 1, 2, 0);
            CHECK.due("one waits, one could not take for the room", -2, y.run(2, seed));
            CHECK.due("it ends behind the first tick", 1, y.told(4));
            y.share(1, 1, 1, 0);
            y.need(1, 0, 0, 1);
            CHECK.due("both wait", -2, y.run(2, seed));
            CHECK.due("both were begun", 2, y.begun(0) + y.begun(1));
            CHECK.due("both wait, others could not take from an empty queue", -2, y.run(16, seed));
            CHECK.due("all live", 16, y.told(9));
        }
    }

    private static void endsByTheFirstOfThese() {
        CHECK.says("the RUN ends by the first of these");
        TileShares x = new TileShares(3, 5);
        x.stop(2);
        CHECK.due("all are finished, and the stop is", 0, x.run(1, 1));
        x.stop(TileShares.NONE);
        CHECK.due("all are finished, and none could take", 0, x.run(16, 1));
        for (long seed : Due.SEEDS) {
            TileShares y = new TileShares(2, 5);
            y.need(0, 0, 1, 20);
            CHECK.due("without a stop it is stuck", -2, y.run(2, seed));
            y.stop(1);
            CHECK.due("the stop is finished, and all others are stuck", 1, y.run(2, seed));
        }
        TileShares z = new TileShares(2, 5);
        z.need(1, 0, 0, 1);
        z.failing(0, 0, 0, 1);
        CHECK.due("none lives, so that each one that does is stuck", -1, z.run(1, 1));
    }

    /** No known seed comes near 20000 TICKS; FewTicksTest looks at that end in a class with a lower bound. */
    private static void goesOnBelowTheLastTick() {
        CHECK.says("20000 TICKS were: -3");
        TileShares x = new TileShares(16, 16);
        for (int i = 0; i < 16; i++) {
            x.share(i, 20, 1, i);
            if (i > 0) {
                x.need(i, 0, i - 1, 20);
            }
        }
        for (int worker = 0; worker < 8; worker++) {
            x.failing(worker, 15, 19, 9);
        }
        CHECK.due("a long run", 0, x.run(16, 9755));
        CHECK.due("its ticks", 7675, x.told(4));
    }

    private static void putsTheValuesOfThoseFinished() {
        CHECK.says("By 0 and 1 values of all that are FINISHED are put, others have none");
        TileShares x = new TileShares(3, 5);
        CHECK.due("run", 0, x.run(1, 1));
        CHECK.due("all have a value", 3, x.told(11));
        for (int i = 0; i < 3; i++) {
            x.share(i, 2, 1, 10 + i);
        }
        x.stop(1);
        CHECK.due("run", 1, x.run(1, 1));
        CHECK.due("two have a value", 2, x.told(11));
        CHECK.due("the new value of one finished before", Due.behindSteps(10, 2), x.at(0));
        CHECK.due("the new value of the one with the stop", Due.behindSteps(11, 2), x.at(1));
        CHECK.dueThrow("the other has its old value no more", Check.STATE, () -> x.at(2));
        x.stop(0);
        CHECK.due("run", 1, x.run(1, 1));
        CHECK.due("one has a value", 1, x.told(11));
        CHECK.dueThrow("the one that is begun no more has none", Check.STATE, () -> x.at(1));
        x.stop(TileShares.NONE);
        CHECK.due("run", 0, x.run(1, 1));
        CHECK.due("all have a value again", 3, x.told(11));
        CHECK.due("the last one", Due.behindSteps(12, 2), x.at(2));
    }

    private static void keepsTheValuesElse() {
        CHECK.says("else all values are as before the RUN");
        TileShares x = new TileShares(3, 5);
        x.stop(1);
        CHECK.due("run", 1, x.run(1, 1));
        x.stop(TileShares.NONE);
        for (int i = 0; i < 3; i++) {
            x.share(i, 3, 1, 50);
        }
        x.failing(0, 2, 2, 1);
        CHECK.due("no worker lives", -1, x.run(1, 1));
        valuesAreOfTheFirstRun(x);
        x.need(1, 2, 2, 1);
        CHECK.due("stuck", -2, x.run(1, 1));
        CHECK.due("one was finished", 1, x.told(10));
        valuesAreOfTheFirstRun(x);
        TileShares y = new TileShares(2, 5);
        y.failing(0, 1, 0, 1);
        CHECK.due("no worker lives", -1, y.run(1, 1));
        CHECK.due("there was none before", 0, y.told(11));
        CHECK.dueThrow("nor of the one that was finished", Check.STATE, () -> y.at(0));
    }

    private static void valuesAreOfTheFirstRun(TileShares x) {
        CHECK.due("told(11)", 2, x.told(11));
        CHECK.due("at(0)", Due.behind(0, 0), x.at(0));
        CHECK.due("at(1)", Due.behind(1, 0), x.at(1));
        CHECK.dueThrow("at(2)", Check.STATE, () -> x.at(2));
    }
}
