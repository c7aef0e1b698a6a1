/**
 * The end by 20000 TICKS. No known seed needs so many, so .ci/run builds this test with a copy of the
 * class that has 40 in that number's place, and all else as it is.
 */
final class FewTicksTest {
    private static final int MOST_TICKS = 40;
    private static final Check CHECK = new Check();

    public static void main(String[] args) {
        endsBehindTheLastTick();
        endsByAnyOtherOneFirst();
        keepsTheValues();
        tellsOfTheRun();
        CHECK.close("FewTicksTest");
    }

    /** One worker needs a TICK to take each of the two shares, and one for each step. */
    private static TileShares ofTicks(int ticks) {
        TileShares x = new TileShares(2, 5);
        x.share(0, 20, 1, 0);
        x.share(1, ticks - 22, 1, 0);
        return x;
    }

    private static void endsBehindTheLastTick() {
        CHECK.says("20000 TICKS were: -3");
        TileShares fewer = ofTicks(MOST_TICKS - 1);
        CHECK.due("one tick fewer", 0, fewer.run(1, 1));
        CHECK.due("its ticks", MOST_TICKS - 1, fewer.told(4));
        TileShares more = ofTicks(MOST_TICKS + 1);
        for (int run = 0; run < 3; run++) {
            CHECK.due("one tick more", -3, more.run(1, run));
            CHECK.due("its ticks", MOST_TICKS, more.told(4));
        }
        TileShares idle = new TileShares(2, 5);
        idle.share(0, 20, 5, 0);
        idle.share(1, 20, 5, 0);
        CHECK.due("ticks that are idle count too", -3, idle.run(16, 1));
        CHECK.due("its ticks", MOST_TICKS, idle.told(4));
        idle.share(1, 20, 1, 0);
        idle.share(0, 20, 1, 0);
        idle.need(0, 0, 1, 20);
        CHECK.due("ticks that wait count too", -3, idle.run(3, 1));
        CHECK.due("its ticks", MOST_TICKS, idle.told(4));
    }

    private static void endsByAnyOtherOneFirst() {
        CHECK.says("the RUN ends by the first of these");
        TileShares all = ofTicks(MOST_TICKS);
        CHECK.due("all are finished by the last tick", 0, all.run(1, 1));
        CHECK.due("its ticks", MOST_TICKS, all.told(4));

        TileShares stop = new TileShares(3, 5);
        stop.share(0, 20, 1, 0);
        stop.share(1, MOST_TICKS - 22, 1, 0);
        stop.stop(1);
        CHECK.due("the stop is finished by the last tick", 1, stop.run(1, 1));
        stop.share(1, MOST_TICKS - 21, 1, 0);
        CHECK.due("the stop is finished one tick later", -3, stop.run(1, 1));

        TileShares failing = ofTicks(MOST_TICKS + 2);
        failing.failing(0, 1, MOST_TICKS - 23, 1);
        CHECK.due("no worker lives by the last tick", -1, failing.run(1, 1));
        CHECK.due("its ticks", MOST_TICKS, failing.told(4));

        TileShares later = ofTicks(MOST_TICKS + 2);
        later.failing(0, 1, MOST_TICKS - 22, 1);
        CHECK.due("no worker lives one tick later", -3, later.run(1, 1));
        CHECK.due("it lives", 1, later.told(9));

        TileShares stuck = ofTicks(MOST_TICKS + 2);
        stuck.need(1, MOST_TICKS - 22, 0, 20);
        CHECK.due("it need not wait behind the last tick", -3, stuck.run(1, 1));
        stuck.share(0, 19, 1, 0);
        CHECK.due("one tick fewer, and stuck", -2, stuck.run(1, 1));
        CHECK.due("its ticks", MOST_TICKS - 1, stuck.told(4));
        stuck.free(1);
        stuck.need(1, MOST_TICKS - 21, 0, 20);
        CHECK.due("stuck by the last tick", -2, stuck.run(1, 1));
        CHECK.due("its ticks", MOST_TICKS, stuck.told(4));
    }

    private static void keepsTheValues() {
        CHECK.says("else all values are as before the RUN");
        TileShares x = new TileShares(2, 5);
        x.stop(0);
        CHECK.due("run", 1, x.run(1, 1));
        x.stop(TileShares.NONE);
        x.share(0, 20, 1, 9);
        x.share(1, 20, 1, 9);
        CHECK.due("run", -3, x.run(1, 1));
        CHECK.due("share 0 was finished", 1, x.told(10));
        CHECK.due("the old value", 1, x.at(0));
        CHECK.dueThrow("no value before", Check.STATE, () -> x.at(1));
        CHECK.due("values", 1, x.told(11));
    }

    private static void tellsOfTheRun() {
        CHECK.says("Of the latest RUN, however it ended");
        TileShares x = ofTicks(MOST_TICKS + 2);
        CHECK.due("run", -3, x.run(1, 1));
        CHECK.due("order(0)", 0, x.order(0));
        CHECK.dueThrow("order(1)", Check.INDEX, () -> x.order(1));
        CHECK.due("begun(1)", 1, x.begun(1));
        CHECK.due("steps", MOST_TICKS - 2, x.told(7));
        CHECK.due("workers that live", 1, x.told(9));
    }
}
