import java.util.function.ToLongFunction;

/** The sentences under "Terms" on what is thrown when, each with its words beside it. */
final class RefusedTest {
    private static final Check CHECK = new Check();

    public static void main(String[] args) {
        objectsHaveMuchToLose();
        exceptionOfNoSuchShare();
        exceptionOfNoSuchPlace();
        exceptionOfNoValue();
        exceptionOfAnotherNumber();
        exceptionOfNoRoomForMore();
        exceptionIsTheFirstOfSeveral();
        exceptionLeavesAnEmptyObjectAsItWas();
        CHECK.close("RefusedTest");
    }

    /** Where a count were 0, a call that makes it 0 would not be seen. */
    private static void objectsHaveMuchToLose() {
        CHECK.says("A call that throws changes nothing");
        int[] due = {3, 10, 1, 1, 25, 7, 4, 9, 10, 2, 2, 2};
        for (int what = 0; what < due.length; what++) {
            CHECK.due("told(" + what + ")", due[what], Made.fullOfLife().told(what));
        }
        CHECK.due("needs", 6, Made.withAllNeeds().free(0));
        CHECK.due("failings", 8, Made.withAllFailings().told(2));
    }

    private static void exceptionOfNoSuchShare() {
        CHECK.says("IndexOutOfBounds: there is no such share");
        for (int bad : new int[] {-1, Due.FAR[0], 3, 4, Due.FAR[1]}) {
            refusedWithIndex("share(" + bad + ")", x -> x.share(bad, 9, 9, 9));
            refusedWithIndex("need(" + bad + ")", x -> x.need(bad, 1, 0, 1));
            refusedWithIndex("need of " + bad, x -> x.need(0, 1, bad, 1));
            refusedWithIndex("free(" + bad + ")", x -> x.free(bad));
            refusedWithIndex("failing in " + bad, x -> x.failing(0, bad, 1, 1));
            refusedWithIndex("at(" + bad + ")", x -> x.at(bad));
            refusedWithIndex("begun(" + bad + ")", x -> x.begun(bad));
            refusedWithIndex("waited(" + bad + ", 0)", x -> x.waited(bad, 0));
            refusedWithIndex("waited(0, " + bad + ")", x -> x.waited(0, bad));
        }
        for (int bad : new int[] {-2, Due.FAR[0], 3, 4, Due.FAR[1]}) {
            refusedWithIndex("stop(" + bad + ")", x -> x.stop(bad));
        }
    }

    private static void refusedWithIndex(String call, ToLongFunction<TileShares> refused) {
        CHECK.dueRefused(call, Check.INDEX, Made::fullOfLife, refused);
    }

    private static void exceptionOfNoSuchPlace() {
        CHECK.says("IndexOutOfBounds: there is no such share, or place");
        CHECK.due("the last place there is", 1, Made.fullOfLife().order(1));
        for (int bad : new int[] {-1, Due.FAR[0], 2, 3, Due.FAR[1]}) {
            refusedWithIndex("order(" + bad + ")", x -> x.order(bad));
        }
    }

    private static void exceptionOfNoValue() {
        CHECK.says("IllegalState: a share has no value");
        CHECK.dueRefused("at(2)", Check.STATE, Made::fullOfLife, x -> x.at(2));
        CHECK.dueRefused("at(0) of a new one", Check.STATE, () -> new TileShares(3, 10), x -> x.at(0));
    }

    private static void exceptionOfAnotherNumber() {
        CHECK.says("IllegalArgument: another number is none that is told");
        for (int workers : new int[] {0, -1, Due.FAR[0], 17, 18, Due.FAR[1]}) {
            refusedWithArgument("run of " + workers, x -> x.run(workers, 5));
        }
        for (int worker : new int[] {-1, Due.FAR[0], 16, 17, Due.FAR[1]}) {
            refusedWithArgument("failing of worker " + worker, x -> x.failing(worker, 0, 1, 1));
        }
        for (int s : new int[] {-1, Due.FAR[0], 20, 21, Due.FAR[1]}) {
            refusedWithArgument("failing before step " + s, x -> x.failing(0, 0, s, 1));
        }
        for (int times : new int[] {0, -1, Due.FAR[0], 10, 11, Due.FAR[1]}) {
            refusedWithArgument("failing of " + times, x -> x.failing(0, 0, 1, times));
        }
    }

    private static void refusedWithArgument(String call, ToLongFunction<TileShares> refused) {
        CHECK.dueRefused(call, Check.ARGUMENT, Made::fullOfLife, refused);
    }

    private static void exceptionOfNoRoomForMore() {
        CHECK.says("UnsupportedOperation: there is no room for more");
        CHECK.dueRefused("a seventh need", Check.UNSUPPORTED, Made::withAllNeeds, x -> x.need(0, 0, 2, 1));
        CHECK.dueRefused("a ninth failing", Check.UNSUPPORTED, Made::withAllFailings,
                x -> x.failing(0, 0, 0, 1));
        CHECK.due("another share's need", 2, Made.withAllNeeds().need(1, 0, 2, 1));
        CHECK.due("a failing beside six needs", 2, Made.withAllNeeds().failing(0, 0, 0, 1));
        CHECK.due("a need beside eight failings", 2, Made.withAllFailings().need(1, 0, 2, 1));
    }

    private static void exceptionIsTheFirstOfSeveral() {
        CHECK.says("Of several that a call names, the first one");
        refusedWithIndex("share: share, steps and cells", x -> x.share(3, 0, 0, 9));
        refusedWithIndex("need: share and s", x -> x.need(3, 20, 0, 1));
        refusedWithIndex("need: s and other", x -> x.need(0, 20, 3, 1));
        refusedWithIndex("need: other and m", x -> x.need(0, 0, 3, 21));
        refusedWithIndex("need: a share that there is not, and itself", x -> x.need(3, 0, 3, 1));
        refusedWithIndex("failing: worker and share", x -> x.failing(16, 3, 0, 1));
        refusedWithIndex("failing: share, s and times", x -> x.failing(0, 3, 20, 10));
        CHECK.dueRefused("need: share and no room", Check.INDEX, Made::withAllNeeds, x -> x.need(-1, 0, 0, 1));
        CHECK.dueRefused("need: other and no room", Check.INDEX, Made::withAllNeeds, x -> x.need(0, 0, 3, 1));
        CHECK.dueRefused("need: s and no room", Check.ARGUMENT, Made::withAllNeeds, x -> x.need(0, 20, 1, 1));
        CHECK.dueRefused("need: m and no room", Check.ARGUMENT, Made::withAllNeeds, x -> x.need(0, 0, 1, 21));
        CHECK.dueRefused("need: itself and no room", Check.ARGUMENT, Made::withAllNeeds,
                x -> x.need(0, 0, 0, 1));
        CHECK.dueRefused("failing: share and no room", Check.INDEX, Made::withAllFailings,
                x -> x.failing(0, 3, 0, 1));
        CHECK.dueRefused("failing: worker and no room", Check.ARGUMENT, Made::withAllFailings,
                x -> x.failing(16, 0, 0, 1));
        CHECK.dueRefused("failing: s and no room", Check.ARGUMENT, Made::withAllFailings,
                x -> x.failing(0, 0, 20, 1));
        CHECK.dueRefused("failing: times and no room", Check.ARGUMENT, Made::withAllFailings,
                x -> x.failing(0, 0, 0, 10));
    }

    private static void exceptionLeavesAnEmptyObjectAsItWas() {
        CHECK.says("A call that throws changes nothing");
        TileShares x = new TileShares(3, 10);
        String fresh = Check.stateOf(x);
        CHECK.dueThrow("share", Check.ARGUMENT, () -> x.share(0, 21, 5, 5));
        CHECK.dueThrow("share", Check.ARGUMENT, () -> x.share(0, 5, 11, 5));
        CHECK.dueThrow("need", Check.ARGUMENT, () -> x.need(0, 0, 1, 21));
        CHECK.dueThrow("failing", Check.ARGUMENT, () -> x.failing(0, 0, 0, 10));
        CHECK.dueThrow("stop", Check.INDEX, () -> x.stop(3));
        CHECK.dueThrow("run", Check.ARGUMENT, () -> x.run(17, 1));
        CHECK.dueText("all", fresh, Check.stateOf(x));
        TileShares twin = new TileShares(3, 10);
        CHECK.due("run", twin.run(2, 1), x.run(2, 1));
        CHECK.dueText("all behind a run", Check.stateOf(twin), Check.stateOf(x));
    }
}
