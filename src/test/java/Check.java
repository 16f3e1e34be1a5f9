import java.math.BigInteger;

/**
 * What the tests share: they say what is due, and reckon it with BigInteger and with longs, so that
 * a slip in the program's own arithmetic is not made twice.
 */
abstract class Check {
    static final int P = 10007;
    static final int Q = 5003;
    static final int BAD = -1;
    static final int NONE = -2;
    static final int UNKNOWN = -3;
    static final int ORDER = -4;

    static final int[] EDGE_SEEDS = {0, 1, -1, 255, 256, Integer.MIN_VALUE, Integer.MAX_VALUE};
    static final int[] NO_EXPONENTS =
        {-1, Q, Q + 1, -Q, 1 << 13, 1 << 16, Integer.MIN_VALUE, Integer.MAX_VALUE};
    /** Among them numbers that are 1, 2 or 4 modulo P, but not from 1 to 10006. */
    static final int[] NO_ELEMENTS = {0, 5, 10003, P - 1, P, P + 1, P + 2, P + 4, 2 * P + 4, -1, -4,
        1 - P, 4 - P, Integer.MIN_VALUE, Integer.MAX_VALUE};
    static final int[] NO_LEAVES = {-1, 8, 9, -8, 1 << 30, Integer.MIN_VALUE, Integer.MAX_VALUE};
    static final int[] NO_PARTS = {-1, 4, 5, -4, Integer.MIN_VALUE, Integer.MAX_VALUE};

    private static final long INT_RANGE = 1L << 32;

    private static int wrong = 0;
    private static long state = 0;

    static void due(String call, long got, long want) {
        if (got != want) {
            wrong++;
            System.out.println(call + " answered " + got + ", due is " + want);
        }
    }

    static void due(String call, boolean got, boolean want) {
        due(call, got ? 1 : 0, want ? 1 : 0);
    }

    static void finish() {
        System.out.println(wrong == 0 ? "all answers are as due" : wrong + " answers are not as due");
        if (wrong != 0) {
            System.exit(1);
        }
    }

    static int pow(int b, int e) {
        return BigInteger.valueOf(b).modPow(BigInteger.valueOf(e), BigInteger.valueOf(P)).intValue();
    }

    static int product(int a, int b) {
        return (int) ((long) a * b % P);
    }

    static int modQ(long n) {
        return (int) Math.floorMod(n, (long) Q);
    }

    static void seed(int seed) {
        state = seed;
    }

    static int draw() {
        state = Math.floorMod(state * 1103515245L + 12345L, INT_RANGE);
        return (int) (state / 256 % Q);
    }

    /** The seed with which the state is the given one after the first draw. */
    static int seedBefore(int firstState) {
        BigInteger range = BigInteger.valueOf(INT_RANGE);
        BigInteger inverse = BigInteger.valueOf(1103515245L).modInverse(range);
        return BigInteger.valueOf(firstState - 12345L).multiply(inverse).mod(range).intValue();
    }

    /** A seed with which the given exponent is drawn first. */
    static int seedDrawing(int exponent) {
        return seedBefore(exponent << 8);
    }

    static int simulated(int b, int y, int c, int response) {
        return product(pow(b, response), pow(y, Q - c));
    }

    static int hashOf(int... numbers) {
        long h = 17;
        for (int n : numbers) {
            h = (31 * h + n) % INT_RANGE;
        }
        return (int) (h % (INT_RANGE / 2) % Q);
    }

    static void dueParts(String name, SigmaDesk x, int leaf, int... want) {
        for (int what = 0; what < 4; what++) {
            due(name + " part(" + leaf + ", " + what + ")", x.part(leaf, what), want[what]);
        }
    }

    /** A tree of the one leaf 4^7, told. */
    static SigmaDesk single() {
        SigmaDesk x = new SigmaDesk();
        x.leaf(4, pow(4, 7));
        x.accept();
        x.tell(0, 7);
        return x;
    }

    /** A tree of two leaves, 4^7 and 9^11, none told. */
    static SigmaDesk two(boolean all) {
        SigmaDesk x = new SigmaDesk();
        x.leaf(4, pow(4, 7));
        x.leaf(9, pow(9, 11));
        x.join(all);
        x.accept();
        return x;
    }

    /** Leaves 4^1, 9^2 and the pairs 16^3, 25^3: the first two joined, then the third; none told. */
    static SigmaDesk three(boolean inner, boolean outer) {
        SigmaDesk x = new SigmaDesk();
        x.leaf(4, pow(4, 1));
        x.leaf(9, pow(9, 2));
        x.join(inner);
        x.equal(16, pow(16, 3), 25, pow(25, 3));
        x.join(outer);
        x.accept();
        return x;
    }

    /** On top of the stack one statement of leaves 4^1, 4^2, .. so many, each joined as it comes. */
    static void stackChain(SigmaDesk x, int leaves, boolean all) {
        x.leaf(4, pow(4, 1));
        for (int i = 2; i <= leaves; i++) {
            x.leaf(4, pow(4, i));
            x.join(all);
        }
    }
}
