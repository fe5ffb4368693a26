import java.util.Random;

/** Promise 11 and KINDS: floats and doubles as the machine reckons, compares and widens them. */
public final class RealsTest {
    private static final Checks CHECKS = new Checks();
    private static final int PAIRS_OF_ONE = 30;
    private static final int RANDOM_PAIRS = 150_000;

    private static final int[] SINGLES = {0, 1, 2, 0x007fffff, 0x00800000, 0x00800001, 0x00ffffff,
        0x01000000, 0x33800000, 0x33800001, 0x3f7fffff, 0x3f800000, 0x3f800001, 0x40000000,
        0x40400000, 0x4b000000, 0x4b7fffff, 0x4b800000, 0x4b800001, 0x4e800000, 0x5f000000,
        0x7e800000, 0x7effffff, 0x7f000000, 0x7f7fffff, 0x7f800000, 0x7f800001, 0x7fc00000,
        0x7fffffff};
    private static final long[] DOUBLES = {0, 1, 2, 0x000fffffffffffffL, 0x0010000000000000L,
        0x0010000000000001L, 0x001fffffffffffffL, 0x0020000000000000L, 0x3ca0000000000000L,
        0x3ca0000000000001L, 0x3fefffffffffffffL, 0x3ff0000000000000L, 0x3ff0000000000001L,
        0x4000000000000000L, 0x4008000000000000L, 0x4340000000000000L, 0x433fffffffffffffL,
        0x4340000000000001L, 0x43e0000000000000L, 0x47efffffe0000000L, 0x7fd0000000000000L,
        0x7fdfffffffffffffL, 0x7fe0000000000000L, 0x7fefffffffffffffL, 0x7ff0000000000000L,
        0x7ff0000000000001L, 0x7ff8000000000000L, 0x7fffffffffffffffL};
    private static final long[] WHOLES = {0, 1, 2, 3, 127, 128, 255, 32767, 65535, (1L << 24) - 1,
        1L << 24, (1L << 24) + 1, (1L << 24) + 2, (1L << 24) + 3, (1L << 25) + 2, (1L << 25) + 6,
        (1L << 31) - 1, 1L << 31, (1L << 53) - 1, 1L << 53, (1L << 53) + 1, (1L << 53) + 2,
        (1L << 53) + 3, (1L << 54) + 2, (1L << 54) + 6, (1L << 62) - 1, 1L << 62, Long.MAX_VALUE,
        Long.MAX_VALUE - 511, Long.MAX_VALUE - 512, Long.MAX_VALUE - (1L << 38), Long.MIN_VALUE,
        Long.MIN_VALUE + 1};

    private static ScoreHandles x;
    private static int pairs;

    public static void main(String[] args) {
        edges();
        randomOnes();
        randomWidenings();
        CHECKS.end("RealsTest");
    }

    private static void edges() {
        for (int a : SINGLES) {
            for (int b : SINGLES) {
                for (int signs = 0; signs < 4; signs++) {
                    single(a | signs << 31, b | signs >> 1 << 31);
                }
            }
            widened(6, a);
            widened(6, a | 1 << 31);
        }
        for (long a : DOUBLES) {
            for (long b : DOUBLES) {
                for (long signs = 0; signs < 4; signs++) {
                    pair(a | signs << 63, b | signs >> 1 << 63);
                }
            }
        }
        for (long whole : WHOLES) {
            widened(whole);
            widened(-whole);
        }
    }

    private static void randomOnes() {
        Random random = new Random(1);
        for (int i = 0; i < RANDOM_PAIRS; i++) {
            int a = random.nextInt();
            int near = a + (random.nextInt(64) - 32 << 23) ^ random.nextInt() >>> 9;
            single(a, random.nextInt(3) == 0 ? random.nextInt() : near);
            long c = random.nextLong();
            long beside = c + (random.nextLong() % 64 << 52) ^ random.nextLong() >>> 12;
            pair(c, random.nextInt(3) == 0 ? random.nextLong() : beside);
        }
        for (int i = 0; i < RANDOM_PAIRS / 4; i++) {
            // Few bits each: sums that cancel, quotients that come out even, and ties.
            single(Float.floatToIntBits(few(random)), Float.floatToIntBits(few(random)));
            pair(Double.doubleToLongBits(few(random)), Double.doubleToLongBits(few(random)));
            // Least ones among themselves.
            single(random.nextInt() & 0x81ffffff, random.nextInt() & 0x81ffffff);
            long most = 0x803fffffffffffffL;
            pair(random.nextLong() & most, random.nextLong() & most);
        }
    }

    private static float few(Random random) {
        return (random.nextInt(65) - 32) * (random.nextBoolean() ? 0.125f : 16777216f);
    }

    private static void randomWidenings() {
        Random random = new Random(2);
        for (int i = 0; i < RANDOM_PAIRS; i++) {
            widened(random.nextLong() >> random.nextInt(64));
            widened(6, random.nextInt());
            // Long runs of ones and zeros are where rounding is close.
            long edge = (1L << random.nextInt(63)) + (1L << random.nextInt(63));
            widened(edge + random.nextInt(3) - 1);
        }
    }

    private static ScoreHandles fresh() {
        if (pairs % PAIRS_OF_ONE == 0) {
            x = new ScoreHandles();
            for (int kind = 6; kind <= 7; kind++) {
                for (int sort = 6; sort <= 8; sort++) {
                    x.make(sort, kind, 0, 0, 0);
                }
            }
            for (int kind = 1; kind <= 7; kind++) {
                x.make(1, kind, 0, 0, 0);
            }
        }
        pairs++;
        return x;
    }

    private static void single(int a, int b) {
        float first = Float.intBitsToFloat(a);
        float second = Float.intBitsToFloat(b);
        fresh();
        reckoned(0, 6, a, b, Float.floatToIntBits(first + second));
        reckoned(1, 6, a, b, Float.floatToIntBits(first / second));
        reckoned(2, 0, a, b, first > second ? 1 : 0);
    }

    private static void pair(long a, long b) {
        double first = Double.longBitsToDouble(a);
        double second = Double.longBitsToDouble(b);
        fresh();
        reckoned(3, 7, a, b, Double.doubleToLongBits(first + second));
        reckoned(4, 7, a, b, Double.doubleToLongBits(first / second));
        reckoned(5, 0, a, b, first > second ? 1 : 0);
    }

    private static void reckoned(int handle, int result, long a, long b, long want) {
        int kind = handle < 3 ? 6 : 7;
        x.type(result, 2, kind, kind, 0, 0);
        x.give(0, a);
        x.give(1, b);
        CHECKS.due("run(" + handle + ")", x.run(handle, true), 1);
        CHECKS.due("handle " + handle + " of " + Long.toHexString(a) + ", " + Long.toHexString(b),
            x.value(), want);
    }

    private static void widened(long bits) {
        for (int kind = 1; kind <= 5; kind++) {
            widened(kind, bits);
        }
    }

    private static void widened(int kind, long bits) {
        fresh();
        x.give(0, bits);
        double real = kind == 6 ? Float.intBitsToFloat((int) bits) : 0;
        long whole = kind == 1 ? (byte) bits : kind == 2 ? (short) bits : kind == 3 ? (char) bits
            : kind == 4 ? (int) bits : bits;
        if (kind < 6) {
            widens(kind, 6, bits, Float.floatToIntBits((float) whole));
        }
        widens(kind, 7, bits, Double.doubleToLongBits(kind == 6 ? real : (double) whole));
    }

    /** As a parameter on its way to a handle, and as a result on its way back. */
    private static void widens(int kind, int to, long bits, long want) {
        x.type(to, 1, kind, 0, 0, 0);
        for (int self : new int[] {kind, to}) {
            CHECKS.due("run self", x.run(5 + self, false), 1);
            CHECKS.due(bits + " of kind " + kind + " as " + to, x.value(), want);
        }
    }
}
