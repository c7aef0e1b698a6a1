import java.math.BigInteger;

/** What the document's words ask for, worked out in numbers that have no bound. */
final class Due {
    static final int[] FAR = {Integer.MIN_VALUE, Integer.MAX_VALUE};
    static final long[] SEEDS = {0, 1, -1, 7, 1234567890123L, Long.MIN_VALUE, Long.MAX_VALUE};

    private static final BigInteger FACTOR = new BigInteger("6364136223846793005");
    private static final BigInteger ADDEND = new BigInteger("1442695040888963407");
    private static final BigInteger WHOLE = BigInteger.ONE.shiftLeft(64);

    private Due() {
    }

    /** The value behind step s. */
    static long behind(long value, int s, long... needed) {
        BigInteger sum = BigInteger.valueOf(value).multiply(FACTOR).add(BigInteger.valueOf(s)).add(BigInteger.ONE);
        for (long n : needed) {
            sum = sum.add(BigInteger.valueOf(n));
        }
        BigInteger low = sum.mod(WHOLE);
        return low.xor(low.shiftRight(29)).longValue();
    }

    /** The value behind so many steps without NEEDS. */
    static long behindSteps(long start, int steps) {
        long value = start;
        for (int s = 0; s < steps; s++) {
            value = behind(value, s);
        }
        return value;
    }

    /** The START by which step 0 has this sum before its xor. */
    static long startForSum(long sum) {
        return dividedByFactor(BigInteger.valueOf(sum).subtract(BigInteger.ONE));
    }

    /** The SEED by which the first TICK has this x. */
    static long seedForFirst(long x) {
        return dividedByFactor(BigInteger.valueOf(x).subtract(ADDEND));
    }

    static long next(long x) {
        return BigInteger.valueOf(x).multiply(FACTOR).add(ADDEND).mod(WHOLE).longValue();
    }

    /** The place, among so many that live, of the worker that has the TICK. */
    static int place(long x, int living) {
        return BigInteger.valueOf(x).mod(WHOLE).shiftRight(33).mod(BigInteger.valueOf(living)).intValue();
    }

    private static long dividedByFactor(BigInteger number) {
        return number.multiply(FACTOR.modInverse(WHOLE)).mod(WHOLE).longValue();
    }
}
