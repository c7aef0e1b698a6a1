import java.util.function.LongSupplier;
import java.util.function.Supplier;
import java.util.function.ToLongFunction;

/** Counts the answers that are not as due, and tells each of them beside the document's words. */
final class Check {
    static final String INDEX = "IndexOutOfBoundsException";
    static final String ARGUMENT = "IllegalArgumentException";
    static final String STATE = "IllegalStateException";
    static final String UNSUPPORTED = "UnsupportedOperationException";

    private String words = "";
    private int calls;
    private int wrong;

    /** The document's words that the calls from here on look at. */
    void says(String sentence) {
        words = "\"" + sentence + "\": ";
    }

    void due(String call, long want, long got) {
        dueText(call, Long.toString(want), Long.toString(got));
    }

    void dueTrue(String what, boolean got) {
        dueText(what, "true", String.valueOf(got));
    }

    void dueThrow(String call, String exception, LongSupplier got) {
        dueText(call, "throws." + exception, answerOf(got));
    }

    void dueText(String call, String want, String got) {
        calls++;
        if (!want.equals(got)) {
            wrong++;
            System.out.println(words + call + " answered " + got + ", due is " + want);
        }
    }

    /** The call throws, and its object is then, and in later runs, as one that never had the call. */
    void dueRefused(String call, String exception, Supplier<TileShares> made, ToLongFunction<TileShares> refused) {
        TileShares x = made.get();
        dueThrow(call, exception, () -> refused.applyAsLong(x));
        dueText(call + ", and then all", historyOf(made.get()), historyOf(x));
    }

    void close(String name) {
        System.out.println(name + ": " + calls + " answers looked at, " + wrong + " wrong");
        if (wrong != 0) {
            System.exit(1);
        }
    }

    /** The exact class counts: a machine's ArrayIndexOutOfBoundsException is not the document's one. */
    static String answerOf(LongSupplier call) {
        try {
            return Long.toString(call.getAsLong());
        } catch (RuntimeException e) {
            return "throws." + e.getClass().getSimpleName();
        }
    }

    /** All that can be asked of an object without changing it. */
    static String stateOf(TileShares x) {
        StringBuilder text = new StringBuilder();
        for (int what = -1; what <= 12; what++) {
            text.append(" told").append(what).append('=').append(x.told(what));
        }
        int shares = x.told(0);
        for (int i = 0; i < shares; i++) {
            int share = i;
            text.append("\n at=").append(answerOf(() -> x.at(share)));
            text.append(" order=").append(answerOf(() -> x.order(share)));
            text.append(" begun=").append(x.begun(i)).append(" waited=");
            for (int k = 0; k < shares; k++) {
                text.append(x.waited(i, k)).append(',');
            }
        }
        return text.toString();
    }

    /**
     * What can be asked now and behind some runs, which show what was told before them; of up to
     * four shares, so that an object stays below the 512 calls that the document speaks of.
     */
    private static String historyOf(TileShares x) {
        StringBuilder text = new StringBuilder(stateOf(x));
        for (int workers = 1; workers <= 3; workers++) {
            text.append("\n run=").append(x.run(workers, workers)).append(stateOf(x));
        }
        x.stop(TileShares.NONE);
        text.append("\n run=").append(x.run(16, 16)).append(stateOf(x)).append("\n needs=");
        for (int i = 0; i < x.told(0); i++) {
            text.append(x.free(i)).append(',');
        }
        return text.append("\n run=").append(x.run(16, 1)).append(stateOf(x)).toString();
    }
}
