/**
 * The sentences under "Terms" that tell what a share has, its bounds and its values, each with its
 * words beside it. What is due is worked out by hand, or in numbers without a bound.
 */
final class TermsTest {
    private static final Check CHECK = new Check();

    public static void main(String[] args) {
        sharesAreOneToSixteen();
        roomIsOneToThousand();
        sharesCountFromZero();
        stepsAreOneToTwenty();
        stepsAreOneAtFirst();
        cellsAreOneToRoom();
        cellsAreOneAtFirst();
        startIsAnyNumber();
        startIsTheSharesNumberAtFirst();
        needsAreUpToSix();
        needsAreOfStepsToNineteen();
        needsAreOfOneToTwentySteps();
        needsAreOfAnotherShare();
        needIsMetByExactlySoManySteps();
        needOfMoreStepsThanTheOtherHas();
        valueBeginsWithStart();
        valueTakesOneMoreThanTheStep();
        valueTakesEachNeedOfTheStep();
        valueTakesNoNeedOfAnotherStep();
        valueTakesTheOthersValueBehindSoManySteps();
        valueWrapsAround();
        valueOfNeedsWrapsAround();
        valueShiftsZeroIn();
        CHECK.close("TermsTest");
    }

    private static void sharesAreOneToSixteen() {
        CHECK.says("It is made with a number of SHARES, 1 .. 16, and a ROOM of cells, 1 .. 1000"
                + " (others count as the nearest of these)");
        int[][] rows = {
            {1, 1}, {2, 2}, {15, 15}, {16, 16},
            {0, 1}, {-1, 1}, {Due.FAR[0], 1}, {17, 16}, {18, 16}, {Due.FAR[1], 16},
        };
        for (int[] row : rows) {
            TileShares x = new TileShares(row[0], 5);
            CHECK.due("told(0) of " + row[0], row[1], x.told(0));
            CHECK.due("run of " + row[0], 0, x.run(2, 1));
            CHECK.due("all are finished of " + row[0], row[1], x.told(10));
            CHECK.due("the last share of " + row[0], 1, x.begun(row[1] - 1));
            CHECK.dueThrow("the share behind the last of " + row[0], Check.INDEX, () -> x.begun(row[1]));
        }
    }

    private static void roomIsOneToThousand() {
        CHECK.says("and a ROOM of cells, 1 .. 1000 (others count as the nearest of these)");
        int[][] rows = {
            {1, 1}, {2, 2}, {999, 999}, {1000, 1000},
            {0, 1}, {-1, 1}, {Due.FAR[0], 1}, {1001, 1000}, {1002, 1000}, {Due.FAR[1], 1000},
        };
        for (int[] row : rows) {
            TileShares x = new TileShares(1, row[0]);
            CHECK.due("told(1) of " + row[0], row[1], x.told(1));
            CHECK.due("all its cells", 0, x.share(0, 1, row[1], 0));
            CHECK.dueThrow("one cell more", Check.ARGUMENT, () -> x.share(0, 1, row[1] + 1, 0));
            CHECK.due("run", 0, x.run(1, 1));
            CHECK.due("most cells of " + row[0], row[1], x.told(8));
        }
    }

    private static void sharesCountFromZero() {
        CHECK.says("A SHARE, from 0 on");
        TileShares x = new TileShares(4, 5);
        CHECK.due("the first one", 0, x.share(0, 2, 2, 2));
        CHECK.due("the last one", 0, x.share(3, 3, 3, 3));
        CHECK.dueThrow("before the first one", Check.INDEX, () -> x.share(-1, 1, 1, 1));
        CHECK.dueThrow("behind the last one", Check.INDEX, () -> x.share(4, 1, 1, 1));
        x.run(1, 1);
        CHECK.due("value of the first one", Due.behindSteps(2, 2), x.at(0));
        CHECK.due("value of the last one", Due.behindSteps(3, 3), x.at(3));
    }

    private static void stepsAreOneToTwenty() {
        CHECK.says("has STEPS 1 .. 20");
        for (int steps : new int[] {1, 2, 19, 20}) {
            TileShares x = new TileShares(1, 1);
            CHECK.due("share of " + steps, 0, x.share(0, steps, 1, 5));
            CHECK.due("run", 0, x.run(1, 1));
            CHECK.due("steps done of " + steps, steps, x.told(7));
            CHECK.due("value behind " + steps, Due.behindSteps(5, steps), x.at(0));
        }
        for (int steps : new int[] {0, -1, Due.FAR[0], 21, 22, Due.FAR[1]}) {
            CHECK.dueRefused("share of " + steps + " steps", Check.ARGUMENT, Made::fullOfLife,
                    x -> x.share(0, steps, 9, 9));
        }
    }

    private static void stepsAreOneAtFirst() {
        CHECK.says("STEPS 1 .. 20 (1 at first)");
        TileShares x = new TileShares(16, 1);
        CHECK.due("run", 0, x.run(1, 1));
        CHECK.due("a step of each", 16, x.told(7));
        CHECK.due("a tick to take and one to do each", 32, x.told(4));
    }

    private static void cellsAreOneToRoom() {
        CHECK.says("CELLS 1 .. ROOM");
        for (int room : new int[] {1, 2, 10, 1000}) {
            TileShares x = new TileShares(2, room);
            CHECK.due("the least", 0, x.share(0, 1, 1, 0));
            CHECK.due("as many as the room", 0, x.share(1, 1, room, 0));
            CHECK.due("run", 0, x.run(1, 1));
            CHECK.due("most cells", room, x.told(8));
            for (int cells : new int[] {0, -1, Due.FAR[0], room + 1, Due.FAR[1]}) {
                CHECK.dueThrow(cells + " cells of " + room, Check.ARGUMENT, () -> x.share(1, 1, cells, 0));
            }
        }
        for (int cells : new int[] {0, -1, Due.FAR[0], 11, Due.FAR[1]}) {
            CHECK.dueRefused(cells + " cells", Check.ARGUMENT, Made::fullOfLife, x -> x.share(1, 9, cells, 9));
        }
    }

    /** Each share needs the one behind it, so that all must be in the room at once. */
    private static void cellsAreOneAtFirst() {
        CHECK.says("CELLS 1 .. ROOM (1 at first)");
        int[][] rows = {{16, 0, 16}, {1000, 0, 16}, {15, -2, 15}};
        for (int[] row : rows) {
            TileShares x = new TileShares(16, row[0]);
            for (int i = 0; i < 15; i++) {
                x.need(i, 0, i + 1, 1);
            }
            CHECK.due("run in a room of " + row[0], row[1], x.run(16, 3));
            CHECK.due("most cells in a room of " + row[0], row[2], x.told(8));
        }
    }

    private static void startIsAnyNumber() {
        CHECK.says("a START, any number");
        for (long start : new long[] {0, 1, -1, Integer.MIN_VALUE, Long.MIN_VALUE, Long.MAX_VALUE}) {
            TileShares x = new TileShares(2, 5);
            CHECK.due("share from " + start, 0, x.share(1, 2, 1, start));
            x.run(1, 1);
            CHECK.due("value from " + start, Due.behindSteps(start, 2), x.at(1));
        }
    }

    private static void startIsTheSharesNumberAtFirst() {
        CHECK.says("a START, any number (its own number at first)");
        TileShares x = new TileShares(16, 5);
        x.run(3, 1);
        for (int i = 0; i < 16; i++) {
            CHECK.due("at(" + i + ")", Due.behind(i, 0), x.at(i));
        }
    }

    private static void needsAreUpToSix() {
        CHECK.says("and up to 6 NEEDS");
        TileShares x = new TileShares(3, 5);
        CHECK.due("none at first", 0, x.share(0, 1, 1, 0));
        for (int count = 1; count <= 6; count++) {
            CHECK.due("need", count, x.need(0, 0, 1, 1));
        }
        CHECK.due("of another share", 1, x.need(2, 0, 1, 1));
        CHECK.dueThrow("a seventh", Check.UNSUPPORTED, () -> x.need(0, 0, 1, 1));
        CHECK.due("run", 0, x.run(2, 1));
        long one = Due.behind(1, 0);
        CHECK.due("value with six", Due.behind(0, 0, one, one, one, one, one, one), x.at(0));
        CHECK.due("value with one", Due.behind(2, 0, one), x.at(2));
        CHECK.dueRefused("a seventh", Check.UNSUPPORTED, Made::withAllNeeds, y -> y.need(0, 0, 2, 1));
    }

    private static void needsAreOfStepsToNineteen() {
        CHECK.says("before its step s, 0 .. 19");
        for (int s : new int[] {0, 1, 18, 19}) {
            TileShares x = new TileShares(2, 5);
            x.share(0, 20, 1, 0);
            CHECK.due("need before step " + s, 1, x.need(0, s, 1, 1));
            CHECK.due("it must wait there", -2, x.run(1, 1));
            CHECK.due("steps done before it", s, x.told(7));
            CHECK.due("a tick to take it and one for each step", s + 1, x.told(4));
        }
        for (int s : new int[] {-1, Due.FAR[0], 20, 21, Due.FAR[1]}) {
            CHECK.dueRefused("need before step " + s, Check.ARGUMENT, Made::fullOfLife, x -> x.need(0, s, 1, 1));
        }
    }

    private static void needsAreOfOneToTwentySteps() {
        CHECK.says("another SHARE must have DONE m steps, 1 .. 20");
        for (int m : new int[] {1, 2, 19, 20}) {
            TileShares x = new TileShares(2, 5);
            x.share(0, 20, 1, 50);
            CHECK.due("need of " + m, 1, x.need(1, 0, 0, m));
            CHECK.due("run", 0, x.run(1, 1));
            CHECK.due("value", Due.behind(1, 0, Due.behindSteps(50, m)), x.at(1));
        }
        for (int m : new int[] {0, -1, Due.FAR[0], 21, 22, Due.FAR[1]}) {
            CHECK.dueRefused("need of " + m, Check.ARGUMENT, Made::fullOfLife, x -> x.need(0, 0, 1, m));
        }
    }

    private static void needsAreOfAnotherShare() {
        CHECK.says("another SHARE must have DONE m steps");
        for (int share = 0; share < 3; share++) {
            int itself = share;
            CHECK.dueRefused("need of itself", Check.ARGUMENT, Made::fullOfLife,
                    x -> x.need(itself, 1, itself, 1));
        }
    }

    /** Share 0 rests before its step 3 until share 1 has done a step, and share 1 needs m of it for that. */
    private static void needIsMetByExactlySoManySteps() {
        CHECK.says("before its step s, 0 .. 19, another SHARE must have DONE m steps, 1 .. 20");
        for (long seed : Due.SEEDS) {
            for (int m = 1; m <= 5; m++) {
                TileShares x = new TileShares(2, 5);
                x.share(0, 5, 1, 0);
                x.need(0, 3, 1, 1);
                x.need(1, 0, 0, m);
                CHECK.due("3 of " + m + " steps are done", m <= 3 ? 0 : -2, x.run(2, seed));
                CHECK.due("steps then", m <= 3 ? 6 : 3, x.told(7));
            }
        }
    }

    private static void needOfMoreStepsThanTheOtherHas() {
        CHECK.says("if for a NEED of step s the other SHARE has not DONE m steps");
        TileShares x = new TileShares(2, 5);
        x.share(0, 4, 1, 0);
        x.need(1, 0, 0, 5);
        CHECK.due("one more than the other has", -2, x.run(1, 1));
        CHECK.due("the other is finished", 1, x.told(10));
        x.share(0, 5, 1, 0);
        CHECK.due("as many as the other has now", 0, x.run(1, 1));
        x.share(1, 2, 1, 0);
        x.need(1, 2, 0, 20);
        CHECK.due("before a step that it has not", 0, x.run(1, 1));
        x.share(1, 3, 1, 0);
        CHECK.due("before a step that it has now", -2, x.run(1, 1));
    }

    private static void valueBeginsWithStart() {
        CHECK.says("VALUES: behind 0 steps START");
        TileShares x = new TileShares(1, 1);
        x.share(0, 1, 1, 0);
        x.run(1, 1);
        CHECK.due("at(0) from 0", 1, x.at(0));
        x.share(0, 1, 1, 1);
        x.run(1, 1);
        CHECK.due("at(0) from 1", 6364136223846793006L ^ (6364136223846793006L >>> 29), x.at(0));
    }

    private static void valueTakesOneMoreThanTheStep() {
        CHECK.says("behind step s: the value times 6364136223846793005, and s and 1 more");
        long due = 0;
        for (int steps = 1; steps <= 20; steps++) {
            TileShares x = new TileShares(1, 1);
            x.share(0, steps, 1, 0);
            x.run(1, 1);
            due = Due.behind(due, steps - 1);
            CHECK.due("value behind step " + (steps - 1), due, x.at(0));
        }
    }

    private static void valueTakesEachNeedOfTheStep() {
        CHECK.says("and for each NEED of this step, that other SHARE's value behind m steps");
        TileShares x = new TileShares(3, 5);
        x.share(0, 2, 1, 100);
        x.share(1, 1, 1, 200);
        x.need(2, 0, 0, 1);
        x.need(2, 0, 1, 1);
        x.need(2, 0, 0, 2);
        x.need(2, 0, 0, 2);
        CHECK.due("run", 0, x.run(1, 1));
        long twice = Due.behindSteps(100, 2);
        CHECK.due("the same one told twice counts twice",
                Due.behind(2, 0, Due.behind(100, 0), Due.behind(200, 0), twice, twice), x.at(2));
    }

    private static void valueTakesNoNeedOfAnotherStep() {
        CHECK.says("for each NEED of this step");
        TileShares x = new TileShares(2, 5);
        x.share(0, 1, 1, 100);
        x.share(1, 3, 1, 200);
        x.need(1, 1, 0, 1);
        x.need(1, 3, 0, 1);
        CHECK.due("run", 0, x.run(1, 1));
        CHECK.due("value", Due.behind(Due.behind(Due.behind(200, 0), 1, Due.behind(100, 0)), 2), x.at(1));
    }

    private static void valueTakesTheOthersValueBehindSoManySteps() {
        CHECK.says("that other SHARE's value behind m steps");
        for (int m = 1; m <= 20; m++) {
            TileShares x = new TileShares(2, 5);
            x.share(0, 20, 1, -9);
            x.need(1, 0, 0, m);
            CHECK.due("run, when the other has done all its steps", 0, x.run(1, 1));
            CHECK.due("value with that behind " + m, Due.behind(1, 0, Due.behindSteps(-9, m)), x.at(1));
        }
    }

    private static void valueWrapsAround() {
        CHECK.says("all that modulo 2^64 (a number of 64 bits with sign)");
        long[][] rows = {
            {0, 0}, {1, 1}, {(1L << 29) - 1, (1L << 29) - 1}, {1L << 29, (1L << 29) + 1},
            {Long.MAX_VALUE, Long.MAX_VALUE ^ ((1L << 34) - 1)}, {Long.MIN_VALUE, Long.MIN_VALUE + (1L << 34)},
        };
        for (long[] row : rows) {
            TileShares x = new TileShares(1, 1);
            x.share(0, 1, 1, Due.startForSum(row[0]));
            x.run(1, 1);
            CHECK.due("value by a sum of " + row[0], row[1], x.at(0));
        }
    }

    private static void valueOfNeedsWrapsAround() {
        CHECK.says("all that modulo 2^64 (a number of 64 bits with sign)");
        TileShares x = new TileShares(2, 5);
        x.share(0, 1, 1, Due.startForSum(Long.MIN_VALUE));
        x.share(1, 1, 1, 0);
        x.need(1, 0, 0, 1);
        x.need(1, 0, 0, 1);
        CHECK.due("run", 0, x.run(1, 1));
        CHECK.due("twice the half, and 1 more", Due.behind(0, 0, 1L << 35), x.at(1));
        x.need(1, 0, 0, 1);
        CHECK.due("run", 0, x.run(1, 1));
        CHECK.due("three times", Due.behind(0, 0, 1L << 35, Long.MIN_VALUE + (1L << 34)), x.at(1));
    }

    private static void valueShiftsZeroIn() {
        CHECK.says("at last that xor itself shifted right by 29 bits, with 0 coming in");
        TileShares x = new TileShares(2, 5);
        x.share(0, 1, 1, Due.startForSum(-1));
        x.need(1, 0, 0, 1);
        CHECK.due("run", 0, x.run(1, 1));
        CHECK.due("of 64 bits that are 1, the upper 29 stay", -(1L << 35), x.at(0));
        CHECK.due("needs come in before that", Due.behind(1, 0, -(1L << 35)), x.at(1));
    }
}
