import java.util.function.LongSupplier;

/** Counts the answers that are not as due, and tells each of them. */
final class Check {
    static final String INDEX = "IndexOutOfBoundsException";
    static final String ARGUMENT = "IllegalArgumentException";
    static final String STATE = "IllegalStateException";
    static final String UNSUPPORTED = "UnsupportedOperationException";

    private int calls;
    private int wrong;

    void due(String call, long want, long got) {
        dueText(call, Long.toString(want), Long.toString(got));
    }

    void dueThrow(String call, String exception, LongSupplier got) {
        dueText(call, "throws." + exception, answerOf(got));
    }

    void dueText(String call, String want, String got) {
        calls++;
        if (!want.equals(got)) {
            wrong++;
            System.out.println(call + " answered " + got + ", due is " + want);
        }
    }

    void close(String name) {
        System.out.println(name + ": " + calls + " answers looked at, " + wrong + " wrong");
        if (wrong != 0) {
            System.exit(1);
        }
    }

    /** The exact class counts: a machine's ArrayIndexOutOfBoundsException is not the document's one. */
    static String answerOf(LongSupplier call) {
        try {
            return Long.toString(call.getAsLong());
        } catch (RuntimeException e) {
            return "throws." + e.getClass().getSimpleName();
        }
    }

    /** All that can be asked of an object without changing it. */
    static String stateOf(TileShares x) {
        StringBuilder text = new StringBuilder();
        for (int what = -1; what <= 12; what++) {
            text.append(" told").append(what).append('=').append(x.told(what));
        }
        int shares = x.told(0);
        for (int i = 0; i < shares; i++) {
            int share = i;
            text.append("\n at=").append(answerOf(() -> x.at(share)));
            text.append(" order=").append(answerOf(() -> x.order(share)));
            text.append(" begun=").append(x.begun(i)).append(" waited=");
            for (int k = 0; k < shares; k++) {
                text.append(x.waited(i, k)).append(',');
            }
        }
        return text.toString();
    }
}
