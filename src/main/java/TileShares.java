/**
 * Shares of work that workers take from a queue, step by step, in an order by a seed: a share may
 * need what others have done by then, takes cells of a bounded room in its turn, is begun anew when
 * its worker fails; values are put by the share's number, and are the same in whatever order it went.
 *
 * <p>The words in capitals are those of the document.
 */
public final class TileShares {

    public static final int NONE = -1;

    private static final int MOST_SHARES = 16;
    private static final int MOST_ROOM = 1000;
    private static final int MOST_STEPS = 20;
    private static final int MOST_NEEDS = 6;
    private static final int MOST_WORKERS = 16;
    private static final int MOST_FAILINGS = 8;
    private static final int MOST_TIMES = 9;
    private static final int MOST_TICKS = 20000;

    private static final long FACTOR = 6364136223846793005L;
    private static final long ADDEND = 1442695040888963407L;

    private static final int ALL_FINISHED = 0;
    private static final int STOPPED = 1;
    private static final int NO_WORKER = -1;
    private static final int STUCK = -2;
    private static final int TOO_LONG = -3;
    private static final int GOES_ON = 2;

    private final Plan plan;
    private final Course course;
    private final boolean[] hasValue;
    private final long[] putValue;

    public TileShares(int shares, int room) {
        int count = nearest(shares, 1, MOST_SHARES);
        plan = new Plan(count, nearest(room, 1, MOST_ROOM));
        course = new Course(plan);
        hasValue = new boolean[count];
        putValue = new long[count];
    }

    public int share(int share, int steps, int cells, long start)
            throws IndexOutOfBoundsException, IllegalArgumentException {
        if (!isShare(share)) {
            throw new IndexOutOfBoundsException("there is no such share");
        }
        if (!isWithin(steps, 1, MOST_STEPS) || !isWithin(cells, 1, plan.room)) {
            throw new IllegalArgumentException("steps or cells");
        }
        plan.steps[share] = steps;
        plan.cells[share] = cells;
        plan.starts[share] = start;
        return plan.needs.count[share];
    }

    public int need(int share, int s, int other, int m)
            throws IndexOutOfBoundsException, IllegalArgumentException, UnsupportedOperationException {
        if (!isShare(share) || !isShare(other)) {
            throw new IndexOutOfBoundsException("there is no such share");
        }
        if (!isStep(s) || !isWithin(m, 1, MOST_STEPS) || other == share) {
            throw new IllegalArgumentException("s, m, or the share itself");
        }
        if (plan.needs.count[share] >= MOST_NEEDS) {
            throw new UnsupportedOperationException("the share has all its needs");
        }
        return plan.needs.add(share, s, other, m);
    }

    public int free(int share) throws IndexOutOfBoundsException {
        if (!isShare(share)) {
            throw new IndexOutOfBoundsException("there is no such share");
        }
        int were = plan.needs.count[share];
        plan.needs.count[share] = 0;
        return were;
    }

    public int failing(int worker, int share, int s, int times)
            throws IndexOutOfBoundsException, IllegalArgumentException, UnsupportedOperationException {
        if (!isShare(share)) {
            throw new IndexOutOfBoundsException("there is no such share");
        }
        if (!isWithin(worker, 0, MOST_WORKERS - 1) || !isStep(s) || !isWithin(times, 1, MOST_TIMES)) {
            throw new IllegalArgumentException("worker, s or times");
        }
        if (plan.failings.count >= MOST_FAILINGS) {
            throw new UnsupportedOperationException("there are all failings");
        }
        return plan.failings.add(worker, share, s, times);
    }

    public int stop(int share) throws IndexOutOfBoundsException {
        if (share != NONE && !isShare(share)) {
            throw new IndexOutOfBoundsException("there is no such share");
        }
        int was = plan.stopAt;
        plan.stopAt = share;
        return was;
    }

    public int run(int workers, long seed) throws IllegalArgumentException {
        if (!isWithin(workers, 1, MOST_WORKERS)) {
            throw new IllegalArgumentException("workers");
        }
        int end = course.go(workers, seed);
        if (end == ALL_FINISHED || end == STOPPED) {
            putValues();
        }
        return end;
    }

    public long at(int share) throws IndexOutOfBoundsException, IllegalStateException {
        if (!isShare(share)) {
            throw new IndexOutOfBoundsException("there is no such share");
        }
        if (!hasValue[share]) {
            throw new IllegalStateException("the share has no value");
        }
        return putValue[share];
    }

    public int order(int k) throws IndexOutOfBoundsException {
        if (!isWithin(k, 0, course.finishedCount - 1)) {
            throw new IndexOutOfBoundsException("there is no such place");
        }
        return course.finished[k];
    }

    public int begun(int share) throws IndexOutOfBoundsException {
        if (!isShare(share)) {
            throw new IndexOutOfBoundsException("there is no such share");
        }
        return course.beginnings[share];
    }

    public int waited(int share, int other) throws IndexOutOfBoundsException {
        if (!isShare(share) || !isShare(other)) {
            throw new IndexOutOfBoundsException("there is no such share");
        }
        return course.waits[share][other];
    }

    public int told(int what) {
        switch (what) {
            case 0:
                return plan.shares;
            case 1:
                return plan.room;
            case 2:
                return plan.failings.count;
            case 3:
                return plan.stopAt;
            case 4:
                return course.ticks;
            case 5:
                return course.idleTicks;
            case 6:
                return course.waitTicks;
            case 7:
                return course.stepsDone;
            case 8:
                return course.mostCells;
            case 9:
                return course.crew.count;
            case 10:
                return course.finishedCount;
            case 11:
                return countValues();
            default:
                return NONE;
        }
    }

    public void clear() {
        plan.reset();
        course.prepare(0);
        for (int i = 0; i < hasValue.length; i++) {
            hasValue[i] = false;
        }
    }

    private static int nearest(int number, int low, int high) {
        return Math.max(low, Math.min(high, number));
    }

    private static boolean isWithin(int number, int low, int high) {
        return number >= low && number <= high;
    }

    private static boolean isStep(int s) {
        return isWithin(s, 0, MOST_STEPS - 1);
    }

    private boolean isShare(int share) {
        return isWithin(share, 0, plan.shares - 1);
    }

    private void putValues() {
        for (int i = 0; i < hasValue.length; i++) {
            hasValue[i] = course.isFinished(i);
            if (hasValue[i]) {
                putValue[i] = course.values[i][plan.steps[i]];
            }
        }
    }

    private int countValues() {
        int count = 0;
        for (int i = 0; i < hasValue.length; i++) {
            if (hasValue[i]) {
                count++;
            }
        }
        return count;
    }

    /** All that is told before a RUN and stays the same in it. */
    private static final class Plan {
        private final int shares;
        private final int room;
        private final int[] steps;
        private final int[] cells;
        private final long[] starts;
        private final Needs needs;
        private final Failings failings;
        private int stopAt;

        Plan(int shares, int room) {
            this.shares = shares;
            this.room = room;
            steps = new int[shares];
            cells = new int[shares];
            starts = new long[shares];
            needs = new Needs(shares);
            failings = new Failings();
            reset();
        }

        void reset() {
            for (int i = 0; i < shares; i++) {
                steps[i] = 1;
                cells[i] = 1;
                starts[i] = i;
                needs.count[i] = 0;
            }
            failings.count = 0;
            stopAt = NONE;
        }
    }

    /** The NEEDS of each SHARE, in the order in which they were told. */
    private static final class Needs {
        private final int[] count;
        private final int[][] step;
        private final int[][] other;
        private final int[][] least;

        Needs(int shares) {
            count = new int[shares];
            step = new int[shares][MOST_NEEDS];
            other = new int[shares][MOST_NEEDS];
            least = new int[shares][MOST_NEEDS];
        }

        int add(int share, int s, int neededShare, int m) {
            int place = count[share];
            step[share][place] = s;
            other[share][place] = neededShare;
            least[share][place] = m;
            count[share] = place + 1;
            return count[share];
        }

        /** The SHARE that a step has to WAIT for, or NONE. */
        int firstUnmet(int share, int s, int[] done) {
            for (int k = 0; k < count[share]; k++) {
                int needed = other[share][k];
                if (step[share][k] == s && done[needed] < least[share][k]) {
                    return needed;
                }
            }
            return NONE;
        }

        long sumOfValues(int share, int s, long[][] values) {
            long sum = 0;
            for (int k = 0; k < count[share]; k++) {
                if (step[share][k] == s) {
                    sum += values[other[share][k]][least[share][k]];
                }
            }
            return sum;
        }
    }

    /** The FAILINGS in the order in which they were told, and what a RUN has left of them. */
    private static final class Failings {
        private final int[] worker = new int[MOST_FAILINGS];
        private final int[] share = new int[MOST_FAILINGS];
        private final int[] step = new int[MOST_FAILINGS];
        private final int[] times = new int[MOST_FAILINGS];
        private final int[] timesLeft = new int[MOST_FAILINGS];
        private int count;

        int add(int failingWorker, int inShare, int s, int howOften) {
            worker[count] = failingWorker;
            share[count] = inShare;
            step[count] = s;
            times[count] = howOften;
            count++;
            return count;
        }

        void renew() {
            for (int k = 0; k < count; k++) {
                timesLeft[k] = times[k];
            }
        }

        /** Uses up one time of the first FAILING that fits, if there is one. */
        boolean strike(int atWorker, int inShare, int s) {
            for (int k = 0; k < count; k++) {
                if (worker[k] == atWorker && share[k] == inShare && step[k] == s && timesLeft[k] > 0) {
                    timesLeft[k]--;
                    return true;
                }
            }
            return false;
        }
    }

    /** The QUEUE: a ring, with a place for every SHARE, as none stands in it twice. */
    private static final class Line {
        private final int[] ring;
        private int head;
        private int length;

        Line(int shares) {
            ring = new int[shares];
        }

        void fillByNumber() {
            for (int i = 0; i < ring.length; i++) {
                ring[i] = i;
            }
            head = 0;
            length = ring.length;
        }

        int first() {
            return length > 0 ? ring[head] : NONE;
        }

        void dropFirst() {
            if (length > 0) {
                head = wrapped(head + 1);
                length--;
            }
        }

        void append(int share) {
            if (length < ring.length) {
                ring[wrapped(head + length)] = share;
                length++;
            }
        }

        private int wrapped(int place) {
            return place < ring.length ? place : place - ring.length;
        }
    }

    /** The workers that live, by number, and the SHARE that each worker has. */
    private static final class Crew {
        private final int[] living = new int[MOST_WORKERS];
        private final int[] held = new int[MOST_WORKERS];
        private int count;

        void gather(int workers) {
            for (int w = 0; w < workers; w++) {
                living[w] = w;
                held[w] = NONE;
            }
            count = workers;
        }

        int whoseTurn(long x) {
            return count > 0 ? living[(int) ((x >>> 33) % count)] : NONE;
        }

        void lose(int worker) {
            int kept = 0;
            for (int k = 0; k < count; k++) {
                if (living[k] != worker) {
                    living[kept] = living[k];
                    kept++;
                }
            }
            count = kept;
        }
    }

    /** The course of the latest RUN; each RUN uses the rows of the one before it again. */
    private static final class Course {
        private final Plan plan;
        private final Line line;
        private final Crew crew;
        private final int[] done;
        private final long[][] values;
        private final int[] beginnings;
        private final int[][] waits;
        private final int[] finished;
        private int finishedCount;
        private int cellsInUse;
        private int mostCells;
        private int ticks;
        private int idleTicks;
        private int waitTicks;
        private int stepsDone;

        Course(Plan plan) {
            this.plan = plan;
            line = new Line(plan.shares);
            crew = new Crew();
            done = new int[plan.shares];
            values = new long[plan.shares][MOST_STEPS + 1];
            beginnings = new int[plan.shares];
            waits = new int[plan.shares][plan.shares];
            finished = new int[plan.shares];
        }

        void prepare(int workers) {
            for (int i = 0; i < plan.shares; i++) {
                done[i] = 0;
                values[i][0] = plan.starts[i];
                beginnings[i] = 0;
                for (int k = 0; k < plan.shares; k++) {
                    waits[i][k] = 0;
                }
            }
            line.fillByNumber();
            crew.gather(workers);
            plan.failings.renew();
            finishedCount = 0;
            cellsInUse = 0;
            mostCells = 0;
            ticks = 0;
            idleTicks = 0;
            waitTicks = 0;
            stepsDone = 0;
        }

        int go(int workers, long seed) {
            prepare(workers);
            long x = seed;
            int end = endByState();
            while (end == GOES_ON && ticks < MOST_TICKS) {
                x = x * FACTOR + ADDEND;
                ticks++;
                // An IDLE or waiting TICK leaves all as it was, so what did not end then does not now.
                if (tick(crew.whoseTurn(x))) {
                    end = endByState();
                }
            }
            return end == GOES_ON ? TOO_LONG : end;
        }

        boolean isFinished(int share) {
            return done[share] >= plan.steps[share];
        }

        private int endByState() {
            if (finishedCount >= plan.shares) {
                return ALL_FINISHED;
            }
            if (plan.stopAt != NONE && isFinished(plan.stopAt)) {
                return STOPPED;
            }
            if (crew.count == 0) {
                return NO_WORKER;
            }
            return isStuck() ? STUCK : GOES_ON;
        }

        private boolean isStuck() {
            for (int k = 0; k < crew.count; k++) {
                int share = crew.held[crew.living[k]];
                if (share == NONE ? canTake() : shareToWaitFor(share) == NONE) {
                    return false;
                }
            }
            return true;
        }

        private boolean canTake() {
            int share = line.first();
            return share != NONE && cellsInUse + plan.cells[share] <= plan.room;
        }

        private int shareToWaitFor(int share) {
            return plan.needs.firstUnmet(share, done[share], done);
        }

        /** Answers whether it changed more than the counts of TICKS. */
        private boolean tick(int worker) {
            if (worker == NONE) {
                return false;
            }
            int share = crew.held[worker];
            if (share == NONE) {
                return take(worker);
            }
            int awaited = shareToWaitFor(share);
            if (awaited != NONE) {
                waits[share][awaited]++;
                waitTicks++;
                return false;
            }
            if (plan.failings.strike(worker, share, done[share])) {
                fail(worker, share);
            } else {
                doStep(worker, share);
            }
            return true;
        }

        private boolean take(int worker) {
            if (!canTake()) {
                idleTicks++;
                return false;
            }
            int share = line.first();
            line.dropFirst();
            crew.held[worker] = share;
            beginnings[share]++;
            cellsInUse += plan.cells[share];
            mostCells = Math.max(mostCells, cellsInUse);
            return true;
        }

        private void fail(int worker, int share) {
            crew.lose(worker);
            done[share] = 0;
            cellsInUse -= plan.cells[share];
            line.append(share);
        }

        private void doStep(int worker, int share) {
            int s = done[share];
            long sum = values[share][s] * FACTOR + s + 1 + plan.needs.sumOfValues(share, s, values);
            values[share][s + 1] = sum ^ (sum >>> 29);
            done[share] = s + 1;
            stepsDone++;
            if (isFinished(share)) {
                crew.held[worker] = NONE;
                cellsInUse -= plan.cells[share];
                finished[finishedCount] = share;
                finishedCount++;
            }
        }
    }
}
