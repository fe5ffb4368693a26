import java.util.Arrays;

/** Promises 1 to 14 at their bounds: each method holds the class to the sentence that it names. */
public final class CallBoundsTest {
    private static final Checks CHECKS = new Checks();
    private static final int INT = Bench.INT;
    private static final int LONG = Bench.LONG;
    private static final int CALLS_MOST = 512;

    public static void main(String[] args) {
        newHasNone();
        newTypeAtHand();
        newNumbers();
        rowBadThenFull();
        putPlaces();
        itemPlaces();
        sizes();
        typeNotLookedAt();
        typeKept();
        makeFirstNamed();
        toldWhat();
        fitsOf();
        giveNumbers();
        numbersBeyond();
        runHandles();
        runFirstNamed();
        runExactly();
        runOfRows();
        runOfAnyRows();
        runWidens();
        valueBeforeAndBehind();
        lastBefore();
        lastOfLatest();
        lastWhat();
        countWhat();
        countOfRuns();
        callsMost();
        CHECKS.end("CallBoundsTest");
    }

    private static Bench bench(String sentence) {
        return new Bench(CHECKS, sentence);
    }

    private static void newHasNone() {
        Bench b = bench("1 ScoreHandles(): No ROWS, no HANDLES");
        for (int i = -1; i <= 1; i++) {
            b.due("size(" + i + ")", b.x.size(i), -1);
            b.due("item(" + i + ", 0)", b.x.item(i, 0), 0);
            b.due("put(" + i + ", 0, 1)", b.x.put(i, 0, 1), -1);
            b.due("told(" + i + ", 0)", b.x.told(i, 0), -1);
            b.due("fits(" + i + ")", b.x.fits(i), -1);
            b.runs(i, true, -1);
            b.runs(i, false, -1);
        }
        b.due("count(0)", b.x.count(0), 0);
        b.due("count(1)", b.x.count(1), 0);
        b.due("count(2)", b.x.count(2), 0);
        b.due("the first row", b.x.row(0, 0), 0);
        b.due("the first handle", b.make(Bench.SELF, 0), 0);
    }

    private static void newTypeAtHand() {
        Bench b = bench("1 THE TYPE AT HAND has no PARAMETERS and KIND 4");
        int[] fits = {0, 1, 1, 1, 2, 0, 0, 0, 0};
        for (int kind = 0; kind <= 8; kind++) {
            b.due("fits one of kind " + kind, b.x.fits(b.shape(kind)), fits[kind]);
        }
        b.due("fits one of one parameter", b.x.fits(b.shape(INT, INT)), 0);
        b.runs(b.constant(INT, 5), true, 1);
        b.due("value()", b.x.value(), 5);
        b.is(b.make(Bench.AS, b.constant(Bench.CHAR, 9)), INT);
    }

    /** Row 0 is what is given for each parameter in turn, not none and no other. */
    private static void newNumbers() {
        Bench b = bench("1 the numbers given are 0");
        b.row(INT);
        int[] kinds = {Bench.INTS, Bench.INTS, Bench.INTS, Bench.INTS};
        int made = b.make(Bench.SELF, Bench.INTS);
        for (int n = 1; n <= 4; n++) {
            b.type(Bench.INTS, Arrays.copyOf(kinds, n));
            b.runs(made, true, 1);
            b.due("number " + (n - 1), b.x.value(), 0);
            if (n < 4) {
                made = b.make(Bench.DROP, made, 0, Bench.INTS);
            }
        }
    }

    private static void rowBadThenFull() {
        Bench b = bench("2 row: BAD: LANE, n above 8, below 0; FULL");
        for (int row = 0; row < 16; row++) {
            b.due("BAD of a lane", b.x.row(8, 8), -1);
            b.due("BAD of a lane", b.x.row(-1, 0), -1);
            b.due("BAD of many", b.x.row(7, 9), -1);
            b.due("BAD of many", b.x.row(0, -1), -1);
            b.due("row", b.x.row(row % 2 * 7, row / 2 % 2 * 8), row);
        }
        // BAD is named ahead of FULL.
        b.due("BAD of a lane", b.x.row(8, 8), -1);
        b.due("BAD of a lane", b.x.row(-1, 0), -1);
        b.due("BAD of many", b.x.row(7, 9), -1);
        b.due("BAD of many", b.x.row(0, -1), -1);
        b.due("FULL", b.x.row(0, 0), -2);
        b.due("FULL", b.x.row(7, 8), -2);
    }

    private static void putPlaces() {
        Bench b = bench("3 put: An ITEM by BITS: 1. BAD");
        b.row(INT, 1, 2, 3);
        b.row(INT);
        b.row(INT, 4);
        int[][] bad = {{-1, 0}, {3, 0}, {0, -1}, {0, 3}, {0, 4}, {1, -1}, {1, 0}, {1, 1}, {2, -1},
            {2, 1}, {16, 0}, {Integer.MIN_VALUE, 0}, {Integer.MAX_VALUE, 0},
            {0, Integer.MIN_VALUE}, {0, Integer.MAX_VALUE}, {0, 8}, {2, 8}};
        for (int[] each : bad) {
            b.due("put(" + each[0] + ", " + each[1] + ", 9)", b.x.put(each[0], each[1], 9), -1);
        }
        b.items(0, 1, 2, 3);
        b.items(1);
        b.items(2, 4);
        b.due("put(0, 0, 5)", b.x.put(0, 0, 5), 1);
        b.due("put(0, 2, 7)", b.x.put(0, 2, 7), 1);
        b.due("put(2, 0, 8)", b.x.put(2, 0, 8), 1);
        b.items(0, 5, 2, 7);
        b.items(2, 8);
    }

    private static void itemPlaces() {
        Bench b = bench("4 item: BITS of an ITEM; 0: there is none");
        b.row(LONG, -1, 2, -3);
        b.row(LONG);
        b.row(LONG, 4);
        long[][] want = {{0, -1, 0}, {0, 0, -1}, {0, 1, 2}, {0, 2, -3}, {0, 3, 0}, {0, 8, 0},
            {1, -1, 0}, {1, 0, 0}, {1, 1, 0}, {2, -1, 0}, {2, 0, 4}, {2, 1, 0}, {3, 0, 0},
            {-1, 0, 0}, {-1, -1, 0}};
        for (long[] each : want) {
            int row = (int) each[0];
            int i = (int) each[1];
            b.due("item(" + row + ", " + i + ")", b.x.item(row, i), each[2]);
        }
        for (int far : Bench.FAR) {
            b.due("item(" + far + ", 0)", b.x.item(far, 0), 0);
            b.due("item(0, " + far + ")", b.x.item(0, far), 0);
        }
    }

    private static void sizes() {
        Bench b = bench("5 size: How many ITEMS a ROW has. BAD");
        for (int many = 0; many <= 8; many++) {
            b.due("size ahead of it", b.x.size(many), -1);
            b.x.row(many % 8, many);
            b.due("size", b.x.size(many), many);
            b.due("size behind it", b.x.size(many + 1), -1);
            b.due("size(-1)", b.x.size(-1), -1);
        }
        for (int far : Bench.FAR) {
            b.due("size(" + far + ")", b.x.size(far), -1);
        }
    }

    private static void typeNotLookedAt() {
        String sentence = "6 type: those beyond n are not looked at";
        for (int n = 0; n <= 4; n++) {
            for (int none : new int[] {-1, 17, Integer.MIN_VALUE, Integer.MAX_VALUE}) {
                Bench b = bench(sentence);
                int[] kinds = new int[n];
                int shape = b.shape(INT, kinds);
                int[] k = {0, 0, 0, 0};
                for (int i = 3; i >= n; i--) {
                    k[i] = none;
                    b.due("type", b.x.type(INT, n, k[0], k[1], k[2], k[3]), 1);
                    b.due("fits", b.x.fits(shape), 2);
                }
                for (int i = n - 1; i >= 0; i--) {
                    k[i] = none;
                    b.due("type", b.x.type(INT, n, k[0], k[1], k[2], k[3]), -1);
                    k[i] = 0;
                }
            }
        }
    }

    private static void typeKept() {
        Bench b = bench("6 type: THE TYPE AT HAND .. BAD (it stays)");
        int shape = b.shape(INT, INT, LONG);
        b.type(INT, INT, LONG);
        int[][] bad = {{-1, 2, 4, 5}, {17, 2, 4, 5}, {4, -1, 4, 5}, {4, 5, 4, 5}, {4, 2, -1, 5},
            {4, 2, 17, 5}, {4, 2, 4, -1}, {4, 2, 4, 17}, {5, 1, 17, 0}, {16, 4, 0, 0}};
        for (int[] each : bad) {
            int last = each[0] == 16 ? 17 : 0;
            b.due("type", b.x.type(each[0], each[1], each[2], each[3], 0, last), -1);
            b.due("fits", b.x.fits(shape), 2);
        }
        b.due("type", b.x.type(16, 4, 0, 16, 0, 16), 1);
        b.due("fits", b.x.fits(shape), 0);
    }

    private static void makeFirstNamed() {
        Bench b = bench("7 make: BAD: ..; MISFIT: ..; FULL (the first that a call names)");
        for (int i = 0; i < 31; i++) {
            b.constant(INT, i);
        }
        // One place is left.
        b.bad(Bench.FILTER, 0, 0, 0);
        b.misfit(Bench.THEN, 0, 0, 0);
        b.make(Bench.DROP, 0, 0, INT);
        b.bad(Bench.THEN, 32, 0, 0);
        b.bad(Bench.THEN, 0, 32, 0);
        b.bad(Bench.CATCH, 0, 7, 0);
        b.misfit(Bench.CATCH, 0, 6, 0);
        b.misfit(Bench.THEN, 0, 0, 0);
        b.refused(-2, Bench.THEN, 0, 31, 0, 0);
        b.refused(-2, Bench.CATCH, 0, 6, 31, 0);
        b.bad(Bench.CONSTANT, Bench.INTS, 0, 0, 0);
        b.refused(-2, Bench.CONSTANT, Bench.INTS, 0, 0, -1);
        b.due("one that is there", b.make(Bench.DROP, 0, 0, INT), 31);
        b.due("one that is there", b.constant(INT, 30), 30);
    }

    private static void toldWhat() {
        int[] kinds = {9, 3, 16, 7};
        for (int n = 0; n <= 4; n++) {
            Bench b = bench("8 told: what = 0 its SORT .. 3 to 6 KIND of PARAMETER 0 to 3. BAD");
            int shape = b.shape(15, Arrays.copyOf(kinds, n));
            b.due("told 0", b.x.told(shape, 0), n == 0 ? 0 : 11);
            b.due("told 1", b.x.told(shape, 1), n);
            b.due("told 2", b.x.told(shape, 2), 15);
            for (int what = 3; what <= 6; what++) {
                b.due("told " + what, b.x.told(shape, what), what - 3 < n ? kinds[what - 3] : -1);
            }
            for (int what : new int[] {-1, -2, 7, 8, Integer.MIN_VALUE, Integer.MAX_VALUE}) {
                b.due("told " + what, b.x.told(shape, what), -1);
            }
            for (int what = 0; what <= 6; what++) {
                b.due("told of none", b.x.told(-1, what), -1);
                b.due("told of none", b.x.told(shape + 1, what), -1);
            }
            for (int far : Bench.FAR) {
                b.due("told of none", b.x.told(far, 0), -1);
            }
        }
    }

    private static void fitsOf() {
        Bench b = bench("9 fits: (2), or goes to it (1), or not (0). BAD");
        b.shape(INT, INT);
        int last = b.x.count(1) - 1;
        int[][] types = {{4, 4, 2}, {5, 4, 1}, {4, 3, 1}, {3, 4, 0}, {4, 5, 0}};
        for (int[] each : types) {
            b.type(each[0], each[1]);
            b.due("fits", b.x.fits(last), each[2]);
            b.due("fits(-1)", b.x.fits(-1), -1);
            b.due("fits of none", b.x.fits(last + 1), -1);
        }
        b.type(INT);
        b.due("fits", b.x.fits(0), 2);
        for (int far : Bench.FAR) {
            b.due("fits(" + far + ")", b.x.fits(far), -1);
        }
    }

    private static void giveNumbers() {
        Bench b = bench("10 give: Number k (0 .. 3) given is v: 1. BAD");
        int self = b.make(Bench.SELF, LONG);
        int[] at = new int[4];
        int[] kinds = {LONG, LONG, LONG, LONG};
        for (int k = 0; k < 4; k++) {
            int made = self;
            for (int i = 0; i < k; i++) {
                made = b.make(Bench.DROP, made, 0, LONG);
            }
            for (int i = k + 1; i < 4; i++) {
                made = b.make(Bench.DROP, made, i, LONG);
            }
            at[k] = made;
        }
        b.given(10, 11, 12, 13);
        for (int k : new int[] {-1, 4, 5, Integer.MIN_VALUE, Integer.MAX_VALUE}) {
            b.due("give(" + k + ")", b.x.give(k, 99), -1);
        }
        b.type(LONG, kinds);
        for (int k = 0; k < 4; k++) {
            b.runs(at[k], true, 1);
            b.due("number " + k, b.x.value(), 10 + k);
        }
        for (long v : new long[] {Long.MIN_VALUE, -1, 0, 1, Long.MAX_VALUE}) {
            for (int k = 0; k < 4; k += 3) {
                b.due("give", b.x.give(k, v), 1);
                b.runs(at[k], true, 1);
                b.due("number " + k, b.x.value(), v);
            }
        }
    }

    private static void numbersBeyond() {
        Bench b = bench("11 run: the numbers given as BITS of the PARAMETERS");
        b.row(INT, 5);
        int size = b.make(Bench.SIZE, INT);
        b.type(INT, Bench.INTS);
        // Those beyond the parameters are none of these, even where no row could be of them.
        b.given(0, -2, 99, Long.MIN_VALUE);
        b.runs(size, true, 1);
        b.due("value()", b.x.value(), 1);
        int two = b.make(Bench.DROP, size, 1, Bench.INTS);
        b.type(INT, Bench.INTS, Bench.INTS);
        b.runs(two, true, -1);
        b.given(0, -1);
        b.runs(two, true, 1);
    }

    private static void runHandles() {
        Bench b = bench("11 run: BAD: the HANDLE");
        for (int i = 0; i < 32; i++) {
            b.runs(i, true, -1);
            b.runs(i, false, -1);
            b.constant(INT, i);
            b.runs(i, true, 1);
            b.due("value()", b.x.value(), i);
            b.runs(-1, true, -1);
            b.runs(i + 1, true, -1);
        }
        for (int far : Bench.FAR) {
            b.runs(far, true, -1);
            b.runs(far, false, -1);
        }
        b.due("count(2)", b.x.count(2), 32);
    }

    private static void runFirstNamed() {
        Bench b = bench("11 run: BAD: the HANDLE; WRONG ..; BAD: a number given for a ROW");
        int self = b.make(Bench.SELF, Bench.INTS);
        b.type(Bench.ANY, Bench.INTS);
        b.given(0);
        b.runs(self + 1, true, -1);
        b.runs(self, true, -4);
        b.runs(self, false, -1);
        b.type(Bench.INTS, Bench.INTS);
        b.runs(self, true, -1);
        b.type(Bench.INTS, 13);
        b.runs(self, false, -4);
        b.runs(self, true, -4);
        b.given(-1);
        b.runs(self, false, -4);
        b.due("count(2)", b.x.count(2), 0);
        b.type(Bench.INTS, Bench.INTS);
        b.runs(self, true, 1);
        b.due("count(2)", b.x.count(2), 1);
    }

    private static void runExactly() {
        Bench b = bench("11 run: WRONG: THE TYPE AT HAND is another one (exact)");
        int two = b.make(Bench.SUM, INT);
        int[][] types = {{4, 4, 4, 1, 1}, {5, 4, 4, -4, 1}, {4, 3, 4, -4, 1}, {4, 4, 3, -4, 1},
            {3, 4, 4, -4, -4}, {4, 5, 4, -4, -4}, {4, 4, 5, -4, -4}};
        for (int[] each : types) {
            b.type(each[0], each[1], each[2]);
            b.runs(two, true, each[3]);
            b.runs(two, false, each[4]);
        }
        b.type(INT, INT);
        b.runs(two, true, -4);
        b.runs(two, false, -4);
        b.type(INT, INT, INT, INT);
        b.runs(two, true, -4);
        b.runs(two, false, -4);
    }

    /** For each lane, a number given: none, of that lane, of another, below and behind all. */
    private static void runOfRows() {
        for (int lane = 0; lane <= 7; lane++) {
            Bench b = bench("11 run: a number given for a ROW is not -1, and none of that LANE");
            int self = b.make(Bench.SELF, 8 + lane);
            b.type(8 + lane, 8 + lane);
            b.given(0);
            b.runs(self, true, -1);
            b.given(-1);
            b.runs(self, true, 1);
            b.due("value()", b.x.value(), -1);
            for (int other = 0; other <= 7; other++) {
                b.row(other);
            }
            for (int row = -2; row <= 8; row++) {
                b.given(row);
                boolean isOf = row == -1 || row == lane;
                b.runs(self, true, isOf ? 1 : -1);
                b.runs(self, false, isOf ? 1 : -1);
            }
        }
    }

    private static void runOfAnyRows() {
        Bench b = bench("11 run: (16: of any)");
        int self = b.make(Bench.SELF, 16);
        b.type(16, 16);
        for (int row = 0; row < 3; row++) {
            b.given(row);
            b.runs(self, true, -1);
            b.row(row * 3);
            for (int each = -2; each <= row + 2; each++) {
                b.given(each);
                b.runs(self, true, each >= -1 && each <= row ? 1 : -1);
            }
        }
        // A type of one lane goes to it: the number is to be of that lane all the same.
        b.type(16, 8);
        b.given(0);
        b.runs(self, false, 1);
        b.given(1);
        b.runs(self, false, -1);
    }

    private static void runWidens() {
        Bench b = bench("11 run: widened to its own; the RESULT widened");
        int self = b.make(Bench.SELF, LONG);
        b.type(Bench.DOUBLE, Bench.BYTE);
        long[] numbers = {127, 128, 255, 256, 257, -1};
        double[] want = {127, -128, -1, 0, 1, -1};
        for (int i = 0; i < numbers.length; i++) {
            b.given(numbers[i]);
            b.runs(self, false, 1);
            b.due("value() of " + numbers[i], b.x.value(), Double.doubleToLongBits(want[i]));
        }
        b.type(Bench.FLOAT, LONG);
        // The first whole number that no float has, and those beside it.
        for (long whole : new long[] {(1 << 24) - 1, 1 << 24, (1 << 24) + 1, (1 << 24) + 2,
            (1 << 24) + 3, Long.MAX_VALUE, Long.MIN_VALUE}) {
            b.given(whole);
            b.runs(self, false, 1);
            b.due("value() of " + whole, b.x.value(), Float.floatToIntBits((float) whole));
        }
        b.type(Bench.DOUBLE, LONG);
        for (long whole : new long[] {(1L << 53) - 1, 1L << 53, (1L << 53) + 1, (1L << 53) + 2,
            (1L << 53) + 3, Long.MAX_VALUE, Long.MIN_VALUE}) {
            b.given(whole);
            b.runs(self, false, 1);
            b.due("value() of " + whole, b.x.value(), Double.doubleToLongBits((double) whole));
        }
    }

    private static void valueBeforeAndBehind() {
        Bench b = bench("12 value: of the latest run() that answered 1; 0 before");
        b.due("value() before", b.x.value(), 0);
        int quotient = b.make(Bench.QUOTIENT, INT);
        b.type(INT, INT, INT);
        b.runs(quotient, true, -13);
        b.due("value() behind one that failed", b.x.value(), 0);
        b.given(9, 3);
        b.runs(quotient + 1, true, -1);
        b.due("value() behind BAD", b.x.value(), 0);
        b.runs(quotient, true, 1);
        b.due("value() behind 1", b.x.value(), 3);
        b.given(9, 0);
        b.runs(quotient, true, -13);
        b.due("value() behind one that failed", b.x.value(), 3);
        b.type(INT, INT);
        b.runs(quotient, false, -4);
        b.due("value() behind WRONG", b.x.value(), 3);
        b.runs(-1, false, -1);
        b.due("value() behind BAD", b.x.value(), 3);
        b.type(INT, INT, INT);
        b.given(9, 9);
        b.runs(quotient, true, 1);
        b.due("value() of the latest", b.x.value(), 1);
        b.given(0, 9);
        b.runs(quotient, true, 1);
        b.due("value() of the latest, 0", b.x.value(), 0);
    }

    private static void last(Bench b, int steps, int failures, int at) {
        b.due("last(0)", b.x.last(0), steps);
        b.due("last(1)", b.x.last(1), failures);
        b.due("last(2)", b.x.last(2), at);
    }

    private static void lastBefore() {
        Bench b = bench("13 last: -1 before (0, 1: 0)");
        last(b, 0, 0, -1);
        int fail = b.make(Bench.FAIL, INT, 0);
        last(b, 0, 0, -1);
        b.runs(fail + 1, true, -1);
        last(b, 0, 0, -1);
        b.type(LONG, INT);
        b.runs(fail, true, -4);
        last(b, 0, 0, -1);
        b.type(INT);
        b.runs(fail, true, -30);
        last(b, 1, 1, 0);
    }

    private static void lastOfLatest() {
        Bench b = bench("13 last: Of the latest run() that was not BAD, WRONG (-1: none did)");
        int constant = b.constant(INT, 3);
        int fail = b.make(Bench.FAIL, INT, 4);
        int caught = b.make(Bench.CATCH, fail, -1, b.make(Bench.SELF, INT));
        b.type(INT);
        b.runs(constant, true, 1);
        last(b, 1, 0, -1);
        b.runs(fail, true, -34);
        last(b, 1, 1, fail);
        b.runs(99, true, -1);
        last(b, 1, 1, fail);
        b.type(LONG);
        b.runs(constant, true, -4);
        last(b, 1, 1, fail);
        b.runs(constant, false, 1);
        last(b, 1, 0, -1);
        // Caught, it is the last that failed all the same.
        b.runs(caught, false, 1);
        last(b, 3, 1, fail);
        b.runs(constant, false, 1);
        last(b, 1, 0, -1);
    }

    private static void lastWhat() {
        Bench b = bench("13 last: 0 STEPS, 1 FAILURES, 2 the HANDLE. BAD");
        int[] none = {-2, -1, 3, 4, Integer.MIN_VALUE, Integer.MAX_VALUE};
        for (int what : none) {
            b.due("last(" + what + ")", b.x.last(what), -1);
        }
        int fail = b.make(Bench.FAIL, INT, 0);
        b.runs(b.make(Bench.LAST, fail, b.make(Bench.SUM, INT)), true, -30);
        last(b, 3, 1, 0);
        for (int what : none) {
            b.due("last(" + what + ")", b.x.last(what), -1);
        }
    }

    private static void countWhat() {
        Bench b = bench("14 count: What = 0 ROWS, 1 HANDLES, 2 runs. BAD");
        int[] none = {-2, -1, 3, 4, Integer.MIN_VALUE, Integer.MAX_VALUE};
        for (int times = 0; times < 2; times++) {
            for (int what : none) {
                b.due("count(" + what + ")", b.x.count(what), -1);
            }
            b.row(INT);
            b.row(INT);
            b.runs(b.constant(INT, times), true, 1);
            b.due("count(0)", b.x.count(0), 2 + 2 * times);
            b.due("count(1)", b.x.count(1), 1 + times);
            b.due("count(2)", b.x.count(2), 1 + times);
        }
    }

    private static void countOfRuns() {
        Bench b = bench("14 count: 2 runs that were not BAD, WRONG");
        int constant = b.constant(INT, 3);
        int fail = b.make(Bench.FAIL, INT, 4);
        int rows = b.make(Bench.SELF, 16);
        b.runs(constant, true, 1);
        b.due("count(2) behind 1", b.x.count(2), 1);
        b.runs(fail, true, -34);
        b.due("count(2) behind a failure", b.x.count(2), 2);
        b.runs(3, true, -1);
        b.due("count(2) behind BAD", b.x.count(2), 2);
        b.runs(rows, true, -4);
        b.due("count(2) behind WRONG", b.x.count(2), 2);
        b.type(16, 16);
        b.runs(rows, true, -1);
        b.due("count(2) behind BAD of a row", b.x.count(2), 2);
        b.given(-1);
        b.runs(rows, true, 1);
        b.due("count(2) behind 1", b.x.count(2), 3);
        int loop = b.make(Bench.LOOP, b.make(Bench.SUM, INT));
        b.type(INT, INT, INT);
        b.given(2000);
        b.runs(loop, true, -17);
        b.due("count(2) behind 7", b.x.count(2), 4);
    }

    private static void callsMost() {
        Bench b = bench("An object is used for at most 512 calls");
        b.x.make(Bench.QUOTIENT, INT, 0, 0, 0);
        b.x.type(INT, 2, INT, INT, 0, 0);
        b.x.give(1, 0);
        for (int call = 3; call < CALLS_MOST - 3; call += 2) {
            b.due("give, call " + call, b.x.give(0, call), 1);
            b.runs(0, true, -13);
        }
        b.due("give, call 510", b.x.give(1, 1), 1);
        b.runs(0, true, 1);
        b.due("the 512th call", b.x.value(), 507);
    }
}
