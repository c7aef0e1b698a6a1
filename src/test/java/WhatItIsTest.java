import java.util.Set;
import java.util.TreeSet;

/** The sentences under "What it is", each with its words beside it. */
final class WhatItIsTest {
    private static final int MOST_CALLS = 512;
    private static final int SEEDS = 60;
    private static final Check CHECK = new Check();

    public static void main(String[] args) {
        workersTakeSharesFromAQueue();
        sharesAreDoneStepByStep();
        orderIsByTheSeed();
        shareNeedsWhatOthersHaveDoneByThen();
        sharesTakeCellsInTheirTurn();
        shareIsBegunAnewWhenItsWorkerFails();
        valuesArePutByTheSharesNumber();
        valuesAreTheSameInAnyOrder();
        answersRunsToTheLastCall();
        answersAllCallsToTheLastOne();
        CHECK.close("WhatItIsTest");
    }

    /** Share 15 can never be finished, so that each run ends by the stop. */
    private static void workersTakeSharesFromAQueue() {
        CHECK.says("Shares of work that workers take from a queue");
        for (int seed = 0; seed < SEEDS; seed++) {
            TileShares x = new TileShares(16, 16);
            x.need(15, 0, 14, 20);
            x.stop(7);
            CHECK.due("run", 1, x.run(16, seed));
            boolean taken = true;
            for (int i = 0; i < 16; i++) {
                CHECK.dueTrue("share " + i + " is not taken before those in front of it", taken || x.begun(i) == 0);
                taken = x.begun(i) == 1;
            }
        }
    }

    private static void sharesAreDoneStepByStep() {
        CHECK.says("step by step");
        for (int steps = 1; steps <= 20; steps++) {
            TileShares x = new TileShares(1, 1);
            x.share(0, steps, 1, 0);
            CHECK.due("run", 0, x.run(1, steps));
            CHECK.due("a tick to take it and one for each step", 1 + steps, x.told(4));
        }
    }

    private static void orderIsByTheSeed() {
        CHECK.says("in an order by a seed");
        Set<String> orders = new TreeSet<>();
        for (int seed = 0; seed < SEEDS; seed++) {
            TileShares x = new TileShares(3, 3);
            x.run(3, seed);
            String state = Check.stateOf(x);
            orders.add(orderOf(x));
            x.run(3, seed + 1);
            x.run(3, seed);
            CHECK.dueText("the same seed again", state, Check.stateOf(x));
        }
        CHECK.due("three shares come in each order by some seed", 6, orders.size());
    }

    private static String orderOf(TileShares x) {
        StringBuilder text = new StringBuilder();
        for (int k = 0; k < x.told(10); k++) {
            text.append(x.order(k)).append(' ');
        }
        return text.toString();
    }

    private static void shareNeedsWhatOthersHaveDoneByThen() {
        CHECK.says("a share may need what others have done by then");
        for (int seed = 0; seed < SEEDS; seed++) {
            TileShares x = new TileShares(3, 3);
            x.need(0, 0, 1, 1);
            x.need(1, 0, 2, 1);
            CHECK.due("run", 0, x.run(3, seed));
            CHECK.dueText("each comes behind the one that it needs", "2 1 0 ", orderOf(x));
        }
    }

    /** Share 1 is the smallest, but stands behind share 0, which has all the room. */
    private static void sharesTakeCellsInTheirTurn() {
        CHECK.says("takes cells of a bounded room in its turn");
        for (int seed = 0; seed < SEEDS; seed++) {
            TileShares x = new TileShares(3, 4);
            x.share(0, 3, 4, 0);
            x.share(1, 2, 1, 0);
            x.share(2, 1, 4, 0);
            CHECK.due("run", 0, x.run(3, seed));
            CHECK.dueText("one behind the other", "0 1 2 ", orderOf(x));
            CHECK.due("the room is never exceeded", 4, x.told(8));
        }
    }

    private static void shareIsBegunAnewWhenItsWorkerFails() {
        CHECK.says("is begun anew when its worker fails");
        for (int seed = 0; seed < SEEDS; seed++) {
            TileShares x = new TileShares(1, 1);
            x.share(0, 5, 1, 40);
            x.failing(0, 0, 4, 1);
            x.failing(1, 0, 4, 1);
            CHECK.due("run", 0, x.run(3, seed));
            int failed = 3 - x.told(9);
            CHECK.due("begun", 1 + failed, x.begun(0));
            CHECK.due("steps", 5 + 4 * failed, x.told(7));
            CHECK.due("value", Due.behindSteps(40, 5), x.at(0));
        }
    }

    /** Shares come to their end in the reverse of their numbers. */
    private static void valuesArePutByTheSharesNumber() {
        CHECK.says("values are put by the share's number");
        TileShares x = new TileShares(16, 16);
        for (int i = 0; i < 16; i++) {
            x.share(i, 1 + i, 1, 1000 - i);
            if (i < 15) {
                x.need(i, i, i + 1, 2 + i);
            }
        }
        CHECK.due("run", 0, x.run(16, 5));
        CHECK.due("the last share comes first", 15, x.order(0));
        long behind = Due.behindSteps(1000 - 15, 16);
        CHECK.due("at(15)", behind, x.at(15));
        for (int i = 14; i >= 0; i--) {
            behind = Due.behind(Due.behindSteps(1000 - i, i), i, behind);
            CHECK.due("at(" + i + ")", behind, x.at(i));
        }
    }

    private static void valuesAreTheSameInAnyOrder() {
        CHECK.says("values are put by the share's number, and are the same in whatever order it went");
        Set<String> orders = new TreeSet<>();
        Set<Integer> living = new TreeSet<>();
        String values = valuesOf(ofManyOrders(1, 0));
        for (int seed = 0; seed < SEEDS; seed++) {
            for (int workers = 4; workers <= 16; workers += 3) {
                TileShares x = ofManyOrders(workers, seed);
                CHECK.due("all are finished", 5, x.told(10));
                CHECK.dueText("values", values, valuesOf(x));
                orders.add(orderOf(x));
                living.add(workers - x.told(9));
            }
        }
        CHECK.dueTrue("it went in more than ten orders", orders.size() > 10);
        CHECK.dueText("none, one or two of the workers failed", "[0, 1, 2]", living.toString());
    }

    private static TileShares ofManyOrders(int workers, long seed) {
        TileShares x = new TileShares(5, 30);
        for (int i = 0; i < 5; i++) {
            x.share(i, 8 - i, 3 * i + 1, -i);
            if (i > 0) {
                x.need(i, i % 4, i - 1, i);
                x.need(i, 2, 0, 3);
            }
        }
        x.failing(1, 2, 3, 1);
        x.failing(2, 4, 0, 1);
        x.run(workers, seed);
        return x;
    }

    private static String valuesOf(TileShares x) {
        StringBuilder text = new StringBuilder();
        for (int i = 0; i < x.told(0); i++) {
            text.append(x.at(i)).append(' ');
        }
        return text.toString();
    }

    private static void answersRunsToTheLastCall() {
        CHECK.says("An object is used for at most 512 calls after it has been made");
        TileShares x = new TileShares(16, 1000);
        for (int call = 1; call <= MOST_CALLS - 2; call++) {
            CHECK.due("run as call " + call, 0, x.run(1 + call % 16, call));
        }
        CHECK.due("told as the last call but one", 16, x.told(11));
        CHECK.due("at as the last call", Due.behind(15, 0), x.at(15));
    }

    private static void answersAllCallsToTheLastOne() {
        CHECK.says("An object is used for at most 512 calls after it has been made");
        TileShares x = new TileShares(2, 5);
        for (int call = 0; call < MOST_CALLS; call += 16) {
            CHECK.due("share", 0, x.share(1, 2, 5, 9));
            CHECK.due("need", 1, x.need(1, 1, 0, 1));
            CHECK.due("failing", 1, x.failing(0, 1, 1, 9));
            CHECK.due("stop", TileShares.NONE, x.stop(0));
            CHECK.due("run", 1, x.run(1, call));
            CHECK.due("at", 1, x.at(0));
            CHECK.dueThrow("at", Check.STATE, () -> x.at(1));
            CHECK.due("stop", 0, x.stop(TileShares.NONE));
            CHECK.due("run", -1, x.run(1, call));
            CHECK.due("order", 0, x.order(0));
            CHECK.dueThrow("order", Check.INDEX, () -> x.order(1));
            CHECK.due("begun", 1, x.begun(1));
            CHECK.due("waited", 0, x.waited(1, 0));
            CHECK.due("told", 3 + 2, x.told(4));
            CHECK.due("free", 1, x.free(1));
            x.clear();
        }
    }
}
