import java.math.BigInteger;
import java.util.ArrayList;
import java.util.HashMap;
import java.util.List;
import java.util.Map;
import java.util.Random;
import java.util.TreeMap;
import java.util.function.LongSupplier;

/**
 * Many objects beside a slow model of the document, with calls drawn by fixed seeds. The model works
 * values out from the needs alone, not in the order of the run, and looks at each end behind each tick.
 */
final class ModelTest {
    private static final int OBJECTS = 1500;
    private static final int MOST_CALLS = 512;
    private static final BigInteger FACTOR = new BigInteger("6364136223846793005");
    private static final BigInteger ADDEND = new BigInteger("1442695040888963407");
    private static final BigInteger WHOLE = BigInteger.ONE.shiftLeft(64);

    private static final Check CHECK = new Check();
    private static final Map<Integer, Integer> ENDS = new TreeMap<>();

    private final Random random;
    private final boolean tame;
    private final TileShares real;
    private final Model model;
    private int calls;

    private ModelTest(long seed) {
        random = new Random(seed);
        tame = random.nextInt(4) > 0;
        int shares = random.nextInt(19) - 1;
        int room = random.nextInt(3) == 0 ? random.nextInt(1200) - 100 : 1 + random.nextInt(12);
        real = new TileShares(shares, room);
        model = new Model(Math.max(1, Math.min(16, shares)), Math.max(1, Math.min(1000, room)));
    }

    public static void main(String[] args) {
        for (int seed = 0; seed < OBJECTS; seed++) {
            new ModelTest(seed).drive();
        }
        System.out.println("ends of runs: " + ENDS);
        for (int end : new int[] {0, 1, -1, -2}) {
            CHECK.dueText("runs that end by " + end, "true", String.valueOf(ENDS.getOrDefault(end, 0) > 100));
        }
        CHECK.close("ModelTest");
    }

    private void drive() {
        if (tame) {
            tellAll();
        }
        while (calls < MOST_CALLS) {
            int kind = random.nextInt(12);
            if (kind == 0) {
                compare("clear()", () -> { real.clear(); return 0; }, () -> { model.reset(); return 0; });
                if (tame) {
                    tellAll();
                }
            } else if (kind < 4) {
                compareRun();
            } else {
                compareTold(kind);
            }
        }
    }

    private void compare(String call, LongSupplier got, LongSupplier want) {
        if (calls < MOST_CALLS) {
            calls++;
            CHECK.dueText(call, Check.answerOf(want), Check.answerOf(got));
        }
    }

    /** Shares whose needs can be met, so that many runs come to a good end. */
    private void tellAll() {
        int n = model.shares;
        for (int i = 0; i < n; i++) {
            share(i, 1 + random.nextInt(random.nextBoolean() ? 20 : 4), 1 + random.nextInt(model.room), random.nextLong());
        }
        for (int k = random.nextInt(2 * n); k > 0; k--) {
            int share = random.nextInt(n);
            int other = random.nextInt(4) > 0 ? random.nextInt(share + 1) : random.nextInt(n);
            need(share, random.nextInt(model.steps[share]), other, 1 + random.nextInt(model.steps[other]));
        }
        for (int k = random.nextInt(6); k > 0; k--) {
            int share = random.nextInt(n);
            failing(random.nextInt(6), share, random.nextInt(model.steps[share]), 1 + random.nextInt(9));
        }
        if (random.nextInt(3) == 0) {
            stop(random.nextInt(n));
        }
    }

    private void compareTold(int kind) {
        int n = model.shares;
        switch (kind) {
            case 4:
                share(near(0, n), near(1, 20), near(1, model.room), random.nextLong());
                break;
            case 5:
            case 6:
                need(near(0, n), near(0, 20), near(0, n), near(1, 20));
                break;
            case 7:
                int share = near(0, n);
                compare("free(" + share + ")", () -> real.free(share), () -> model.free(share));
                break;
            case 8:
                failing(near(0, 16), near(0, n), near(0, 20), near(1, 9));
                break;
            case 9:
                stop(near(-1, n));
                break;
            default:
                ask(random.nextInt(5), near(0, n), near(0, n));
        }
    }

    /** Mostly from low to high, sometimes just outside, sometimes far away. */
    private int near(int low, int high) {
        int kind = random.nextInt(40);
        if (kind == 0) {
            return random.nextInt();
        }
        if (kind < 4) {
            return kind == 1 ? low - 1 : kind == 2 ? high + 1 : Integer.MIN_VALUE;
        }
        return low + random.nextInt(high - low + 1);
    }

    private void share(int share, int steps, int cells, long start) {
        compare("share(" + share + ", " + steps + ", " + cells + ", " + start + ")",
                () -> real.share(share, steps, cells, start), () -> model.share(share, steps, cells, start));
    }

    private void need(int share, int s, int other, int m) {
        compare("need(" + share + ", " + s + ", " + other + ", " + m + ")",
                () -> real.need(share, s, other, m), () -> model.need(share, s, other, m));
    }

    private void failing(int worker, int share, int s, int times) {
        compare("failing(" + worker + ", " + share + ", " + s + ", " + times + ")",
                () -> real.failing(worker, share, s, times), () -> model.failing(worker, share, s, times));
    }

    private void stop(int share) {
        compare("stop(" + share + ")", () -> real.stop(share), () -> model.stop(share));
    }

    private void compareRun() {
        int workers = near(1, random.nextBoolean() ? 16 : 4);
        long seed = random.nextInt(4) == 0 ? random.nextInt(9) - 4 : random.nextLong();
        compare("run(" + workers + ", " + seed + ")", () -> real.run(workers, seed), () -> {
            int end = model.run(workers, seed);
            ENDS.merge(end, 1, Integer::sum);
            return end;
        });
        for (int what = 2; what < 12; what++) {
            ask(4, what, 0);
        }
        for (int i = 0; i < model.shares; i++) {
            ask(0, i, 0);
            ask(1, i, 0);
            ask(2, i, 0);
            ask(3, i, random.nextInt(model.shares));
        }
    }

    private void ask(int kind, int a, int b) {
        switch (kind) {
            case 0:
                compare("at(" + a + ")", () -> real.at(a), () -> model.at(a));
                break;
            case 1:
                compare("order(" + a + ")", () -> real.order(a), () -> model.order(a));
                break;
            case 2:
                compare("begun(" + a + ")", () -> real.begun(a), () -> model.begun(a));
                break;
            case 3:
                compare("waited(" + a + ", " + b + ")", () -> real.waited(a, b), () -> model.waited(a, b));
                break;
            default:
                compare("told(" + a + ")", () -> real.told(a), () -> model.told(a));
        }
    }

    private static final class Need {
        final int s;
        final int other;
        final int m;

        Need(int s, int other, int m) {
            this.s = s;
            this.other = other;
            this.m = m;
        }
    }

    private static final class Worker {
        final int number;
        Integer share;

        Worker(int number) {
            this.number = number;
        }
    }

    /** The document, word by word. */
    private static final class Model {
        final int shares;
        final int room;
        int[] steps;
        int[] cells;
        long[] starts;
        List<List<Need>> needs;
        List<int[]> failings;
        int stop;
        Map<Integer, Long> put;
        Map<String, Integer> counts;
        List<Integer> finished;
        int living;

        Map<Integer, Integer> done;
        List<Integer> queue;
        List<Worker> workers;
        int inUse;

        Model(int shares, int room) {
            this.shares = shares;
            this.room = room;
            reset();
        }

        void reset() {
            steps = new int[shares];
            cells = new int[shares];
            starts = new long[shares];
            needs = new ArrayList<>();
            for (int i = 0; i < shares; i++) {
                steps[i] = 1;
                cells[i] = 1;
                starts[i] = i;
                needs.add(new ArrayList<>());
            }
            failings = new ArrayList<>();
            stop = -1;
            put = new HashMap<>();
            counts = new HashMap<>();
            finished = new ArrayList<>();
            living = 0;
        }

        void place(int share) {
            if (share < 0 || share >= shares) {
                throw new IndexOutOfBoundsException();
            }
        }

        void within(int number, int low, int high) {
            if (number < low || number > high) {
                throw new IllegalArgumentException();
            }
        }

        int share(int share, int newSteps, int newCells, long start) {
            place(share);
            within(newSteps, 1, 20);
            within(newCells, 1, room);
            steps[share] = newSteps;
            cells[share] = newCells;
            starts[share] = start;
            return needs.get(share).size();
        }

        int need(int share, int s, int other, int m) {
            place(share);
            place(other);
            within(s, 0, 19);
            within(m, 1, 20);
            if (share == other) {
                throw new IllegalArgumentException();
            }
            if (needs.get(share).size() == 6) {
                throw new UnsupportedOperationException();
            }
            needs.get(share).add(new Need(s, other, m));
            return needs.get(share).size();
        }

        int free(int share) {
            place(share);
            int were = needs.get(share).size();
            needs.get(share).clear();
            return were;
        }

        int failing(int worker, int share, int s, int times) {
            place(share);
            within(worker, 0, 15);
            within(s, 0, 19);
            within(times, 1, 9);
            if (failings.size() == 8) {
                throw new UnsupportedOperationException();
            }
            failings.add(new int[] {worker, share, s, times});
            return failings.size();
        }

        int stop(int share) {
            if (share != -1) {
                place(share);
            }
            int was = stop;
            stop = share;
            return was;
        }

        long at(int share) {
            place(share);
            if (!put.containsKey(share)) {
                throw new IllegalStateException();
            }
            return put.get(share);
        }

        int order(int k) {
            if (k < 0 || k >= finished.size()) {
                throw new IndexOutOfBoundsException();
            }
            return finished.get(k);
        }

        int begun(int share) {
            place(share);
            return count("begun" + share);
        }

        int waited(int share, int other) {
            place(share);
            place(other);
            return count("waited" + share + "," + other);
        }

        int told(int what) {
            int[] all = {shares, room, failings.size(), stop, count("ticks"), count("idle"), count("wait"),
                count("step"), count("most"), living, finished.size(), put.size()};
            return what >= 0 && what < all.length ? all[what] : -1;
        }

        int count(String what) {
            return counts.getOrDefault(what, 0);
        }

        void more(String what) {
            counts.merge(what, 1, Integer::sum);
        }

        int run(int w, long seed) {
            within(w, 1, 16);
            counts = new HashMap<>();
            finished = new ArrayList<>();
            done = new HashMap<>();
            queue = new ArrayList<>();
            workers = new ArrayList<>();
            inUse = 0;
            for (int i = 0; i < shares; i++) {
                queue.add(i);
                done.put(i, 0);
            }
            for (int i = 0; i < w; i++) {
                workers.add(new Worker(i));
            }
            List<int[]> left = new ArrayList<>();
            for (int[] failing : failings) {
                left.add(failing.clone());
            }
            BigInteger x = BigInteger.valueOf(seed);
            Integer end = end();
            while (end == null) {
                x = x.multiply(FACTOR).add(ADDEND).mod(WHOLE);
                more("ticks");
                tick(workers.get(x.shiftRight(33).mod(BigInteger.valueOf(workers.size())).intValue()), left);
                end = end();
            }
            living = workers.size();
            if (end >= 0) {
                putValues();
            }
            return end;
        }

        void putValues() {
            put = new HashMap<>();
            Map<String, BigInteger> known = new HashMap<>();
            for (int share : finished) {
                put.put(share, value(share, steps[share], known).longValue());
            }
        }

        BigInteger value(int share, int behind, Map<String, BigInteger> known) {
            if (behind == 0) {
                return BigInteger.valueOf(starts[share]).mod(WHOLE);
            }
            String key = share + "," + behind;
            if (!known.containsKey(key)) {
                int s = behind - 1;
                BigInteger sum = value(share, s, known).multiply(FACTOR).add(BigInteger.valueOf(behind));
                for (Need need : needs.get(share)) {
                    if (need.s == s) {
                        sum = sum.add(value(need.other, need.m, known));
                    }
                }
                sum = sum.mod(WHOLE);
                known.put(key, sum.xor(sum.shiftRight(29)));
            }
            return known.get(key);
        }

        boolean canTake() {
            return !queue.isEmpty() && cells[queue.get(0)] + inUse <= room;
        }

        Integer awaited(int share) {
            for (Need need : needs.get(share)) {
                if (need.s == done.get(share) && done.get(need.other) < need.m) {
                    return need.other;
                }
            }
            return null;
        }

        Integer end() {
            if (finished.size() == shares) {
                return 0;
            }
            if (finished.contains(stop)) {
                return 1;
            }
            if (workers.isEmpty()) {
                return -1;
            }
            boolean stuck = true;
            for (Worker worker : workers) {
                boolean moves = worker.share == null ? canTake() : awaited(worker.share) == null;
                stuck = stuck && !moves;
            }
            if (stuck) {
                return -2;
            }
            return count("ticks") == 20000 ? -3 : null;
        }

        void tick(Worker worker, List<int[]> left) {
            if (worker.share == null) {
                take(worker);
                return;
            }
            int share = worker.share;
            Integer other = awaited(share);
            if (other != null) {
                more("waited" + share + "," + other);
                more("wait");
                return;
            }
            for (int[] failing : left) {
                if (failing[0] == worker.number && failing[1] == share && failing[2] == done.get(share)
                        && failing[3] > 0) {
                    failing[3]--;
                    workers.remove(worker);
                    done.put(share, 0);
                    inUse -= cells[share];
                    queue.add(share);
                    return;
                }
            }
            done.merge(share, 1, Integer::sum);
            more("step");
            if (done.get(share) == steps[share]) {
                finished.add(share);
                inUse -= cells[share];
                worker.share = null;
            }
        }

        void take(Worker worker) {
            if (!canTake()) {
                more("idle");
                return;
            }
            worker.share = queue.remove(0);
            more("begun" + worker.share);
            inUse += cells[worker.share];
            counts.merge("most", inUse, Math::max);
        }
    }
}
