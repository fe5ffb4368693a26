/** Term 3, TO RUN, at its bounds: each method holds the class to the sentence that it names. */
public final class RunBoundsTest {
    private static final Checks CHECKS = new Checks();
    private static final int INT = Bench.INT;
    private static final int LONG = Bench.LONG;
    private static final int MOST = Integer.MAX_VALUE;
    private static final int LEAST = Integer.MIN_VALUE;
    private static final int STEPS_MOST = 2000;
    private static final int FAILURES_MOST = 24;
    private static final int[] CODES = {1, 2, 3, 4, 5, 6, 20, 21, 22, 23, 24, 25, 26, 27, 28, 29};

    public static void main(String[] args) {
        orderOfFailures();
        orderOfWrites();
        filterWithinFilter();
        stepsOfEach();
        nothing();
        index();
        indexOfNone();
        zero();
        zeroOfReals();
        sizeBelowNone();
        cast();
        fullByItems();
        fullByRows();
        ownCodes();
        answersOfFailures();
        caughtByItsCodeAlone();
        catchGivesTheNumber();
        sumsWrapAround();
        quotientsWrapAround();
        above();
        realsAtTheirEnds();
        guardOfTruths();
        loopTimes();
        loopCounts();
        atLastOfNone();
        atLastGoesOn();
        stepsAtTheirMost();
        stepsSpentAtEach();
        spentByStepsIsNotHeld();
        failuresAtTheirMost();
        failuresLeftOpen();
        spentByFailuresIsNotHeld();
        writtenStays();
        newStays();
        CHECKS.end("RunBoundsTest");
    }

    private static Bench bench(String sentence) {
        return new Bench(CHECKS, sentence);
    }

    /** One of no parameters and kind int that fails by a code; then where, in how many steps. */
    private static int[] failing(Bench b, int code) {
        if (code >= 20) {
            int fail = b.make(Bench.FAIL, INT, code - 20);
            return new int[] {fail, fail, 1};
        }
        if (code <= 2) {
            int read = b.make(Bench.READ, INT);
            int row = code == 1 ? -1 : b.row(INT, 0);
            return new int[] {b.bind(b.bind(read, row), 1), read, 3};
        }
        if (code == 3) {
            int quotient = b.make(Bench.QUOTIENT, INT);
            return new int[] {b.bind(b.bind(quotient, 1), 0), quotient, 3};
        }
        int lane = code == 5 ? LONG : INT;
        int act = b.make(code == 5 ? Bench.CAST : Bench.NEW, lane);
        int number = code == 4 ? -1 : code == 5 ? b.row(INT, 0) : 9;
        int bound = b.bind(act, number);
        return new int[] {b.make(Bench.THEN, bound, b.make(Bench.SIZE, lane)), act, 3};
    }

    /** One of no parameters that fails by 20 and a number. */
    private static int fail(Bench b, int kind, int code) {
        return b.make(Bench.FAIL, kind, code);
    }

    private static void orderOfFailures() {
        String sentence = "what it is made of runs, in the order told above (g of FOLD, t of GUARD "
            + "first)";
        Bench b = bench(sentence);
        int one = fail(b, INT, 1);
        int two = fail(b, INT, 2);
        int takesOne = b.dropping(one, INT);
        int takesTwo = b.dropping(two, INT);
        // FILTER: g, 2, ahead of h, 1.
        b.fails(b.make(Bench.FILTER, takesOne, 0, takesTwo), 22, two, 0);
        b.fails(b.make(Bench.FILTER, takesTwo, 0, takesOne), 21, one, 0);
        // FOLD: g ahead of h.
        b.fails(b.make(Bench.FOLD, takesOne, two), 22, two);
        b.fails(b.make(Bench.FOLD, takesTwo, one), 21, one);
        // THEN: h ahead of g.
        b.fails(b.make(Bench.THEN, one, takesTwo), 21, one);
        b.fails(b.make(Bench.THEN, two, takesOne), 22, two);
        // GUARD: t ahead of both.
        int t = fail(b, Bench.TRUTH, 3);
        b.fails(b.make(Bench.GUARD, t, one, two), 23, t);
        // CATCH, LAST: h ahead of g.
        b.fails(b.make(Bench.CATCH, one, -1, takesTwo), 22, two);
        b.took(4, 2);
        b.fails(b.make(Bench.CATCH, one, 22, takesTwo), 21, one);
        b.took(2, 1);
        b.fails(b.make(Bench.LAST, one, b.dropping(takesTwo, INT)), 22, two);
        b.took(5, 2);
    }

    /** WRITE of an item answers what it was: each tells what stood there before it. */
    private static void orderOfWrites() {
        Bench b = bench("what it is made of runs, in the order told above");
        b.row(INT, 0);
        int writes = b.bind(b.bind(b.make(Bench.WRITE, INT), 0), 0);
        int three = b.bind(writes, 3);
        int four = b.dropping(b.bind(writes, 4), INT);
        b.x.put(0, 0, 9);
        b.gives(b.make(Bench.FILTER, four, 0, b.dropping(three, INT)), 3, 0);
        b.items(0, 4);
        b.gives(b.make(Bench.FOLD, four, three), 3);
        b.items(0, 4);
        b.gives(b.make(Bench.THEN, three, four), 3);
        b.items(0, 4);
        b.gives(b.make(Bench.LAST, three, b.make(Bench.DROP, four, 0, INT)), 3);
        b.items(0, 4);
    }

    private static void filterWithinFilter() {
        Bench b = bench("PARAMETERS of FILTER as they are handed on");
        int failsOne = fail(b, INT, 1);
        int failsTwo = fail(b, INT, 2);
        int one = b.dropping(failsOne, INT);
        int two = b.dropping(failsTwo, INT);
        int sum = b.make(Bench.SUM, INT);
        // The outer one hands on first, whatever its place is.
        int inner = b.make(Bench.FILTER, sum, 0, one);
        b.fails(b.make(Bench.FILTER, inner, 1, two), 22, failsTwo, 5, 5);
        int innerSecond = b.make(Bench.FILTER, sum, 1, two);
        b.fails(b.make(Bench.FILTER, innerSecond, 0, one), 21, failsOne, 5, 5);
    }

    private static void stepsOfEach() {
        Bench b = bench("Each that begins to run (those within, each time) is a STEP");
        int self = b.make(Bench.SELF, INT);
        int sum = b.make(Bench.SUM, INT);
        b.gives(self, 5, 5);
        b.took(1, 0);
        b.gives(b.make(Bench.SWAP, sum, 0), 7, 3, 4);
        b.took(2, 0);
        b.gives(b.make(Bench.THEN, self, self), 5, 5);
        b.took(3, 0);
        b.gives(b.make(Bench.FILTER, sum, 0, self), 7, 3, 4);
        b.took(3, 0);
        int loop = b.make(Bench.LOOP, sum);
        b.gives(loop, 7, 0, 7);
        b.took(1, 0);
        b.gives(loop, 7, 1, 7);
        b.took(2, 0);
        b.gives(loop, 8, 2, 7);
        b.took(3, 0);
        int truth = b.constant(Bench.TRUTH, 1);
        b.gives(b.make(Bench.GUARD, truth, sum, loop), 7, 3, 4);
        b.took(3, 0);
        b.type(LONG, INT);
        b.gives(b.make(Bench.AS, self), 5, 5);
        b.took(2, 0);
        int fail = fail(b, INT, 0);
        b.fails(fail, 20, fail);
        b.took(1, 1);
        b.gives(b.make(Bench.CATCH, fail, 20, self), 20);
        b.took(3, 1);
        int constant = b.constant(INT, 6);
        b.gives(b.make(Bench.CATCH, constant, 20, self), 6);
        b.took(2, 0);
        b.gives(b.make(Bench.LAST, constant, sum), 6);
        b.took(3, 0);
        b.fails(b.make(Bench.LAST, fail, sum), 20, fail);
        b.took(3, 1);
        b.gives(b.make(Bench.FOLD, sum, constant), 10, 4);
        b.took(3, 0);
        b.gives(b.make(Bench.TWICE, sum), 10, 5);
        b.took(2, 0);
        b.gives(b.bind(sum, 5), 9, 4);
        b.took(2, 0);
        b.gives(b.make(Bench.DROP, self, 0, INT), 4, 5, 4);
        b.took(2, 0);
    }

    private static void nothing() {
        for (int lane = 0; lane <= 7; lane++) {
            Bench b = bench("1 NOTHING: no ROW (2 to 4)");
            b.row(lane, 0);
            int read = b.make(Bench.READ, lane);
            int write = b.make(Bench.WRITE, lane);
            int size = b.make(Bench.SIZE, lane);
            b.fails(read, 1, read, -1, 0);
            b.fails(write, 1, write, -1, 0, 0);
            b.fails(size, 1, size, -1);
            b.gives(read, 0, 0, 0);
            b.gives(write, 0, 0, 0, 0);
            b.gives(size, 1, 0);
            // NOTHING is ahead of INDEX.
            for (int i : new int[] {-1, 1, 8, MOST, LEAST}) {
                b.fails(read, 1, read, -1, i);
                b.fails(write, 1, write, -1, i, 0);
            }
        }
    }

    private static void index() {
        for (int many = 1; many <= 8; many++) {
            Bench b = bench("2 INDEX (2, 3)");
            b.x.row(INT, many);
            int read = b.make(Bench.READ, INT);
            int write = b.make(Bench.WRITE, INT);
            for (int i : new int[] {-1, many, many + 1, 8, 9, MOST, LEAST}) {
                b.fails(read, 2, read, 0, i);
                b.fails(write, 2, write, 0, i, 7);
            }
            for (int i = 0; i < many; i++) {
                b.gives(read, 0, 0, i);
                b.gives(write, 0, 0, i, i + 1);
                b.gives(read, i + 1, 0, i);
            }
        }
    }

    private static void indexOfNone() {
        Bench b = bench("2 INDEX (2, 3), of a ROW of 0 ITEMS");
        b.row(INT);
        int read = b.make(Bench.READ, INT);
        int write = b.make(Bench.WRITE, INT);
        for (int i = -1; i <= 1; i++) {
            b.fails(read, 2, read, 0, i);
            b.fails(write, 2, write, 0, i, 5);
        }
        b.gives(b.make(Bench.SIZE, INT), 0, 0);
    }

    private static void zero() {
        Bench b = bench("3 ZERO: an int or long by 0");
        int ofInts = b.make(Bench.QUOTIENT, INT);
        int ofLongs = b.make(Bench.QUOTIENT, LONG);
        for (long over : new long[] {-1, 0, 1, LEAST, MOST}) {
            b.fails(ofInts, 3, ofInts, over, 0);
            b.fails(ofLongs, 3, ofLongs, over, 0);
            b.gives(ofInts, over, over, 1);
            b.gives(ofLongs, over, over, 1);
            b.gives(ofInts, (int) -over, over, -1);
            b.gives(ofLongs, -over, over, -1);
        }
        // An int of no bits within its 32 is 0, a long of the same bits is not.
        b.fails(ofInts, 3, ofInts, 5, 1L << 32);
        b.gives(ofLongs, 0, 5, 1L << 32);
    }

    private static void zeroOfReals() {
        Bench b = bench("3 ZERO: an int or long by 0 (no float, no double)");
        int floats = b.make(Bench.QUOTIENT, Bench.FLOAT);
        int doubles = b.make(Bench.QUOTIENT, Bench.DOUBLE);
        int one = 0x3f800000;
        int infinity = 0x7f800000;
        b.gives(floats, infinity, one, 0);
        b.gives(floats, infinity | LEAST, one, LEAST);
        b.gives(floats, infinity | LEAST, one | LEAST, 0);
        b.gives(floats, 0x7fc00000, 0, 0);
        b.gives(floats, 0x7fc00000, 0, LEAST);
        b.gives(floats, one, one, one);
        long longOne = 0x3ff0000000000000L;
        long longInfinity = 0x7ff0000000000000L;
        b.gives(doubles, longInfinity, longOne, 0);
        b.gives(doubles, longInfinity | Long.MIN_VALUE, longOne, Long.MIN_VALUE);
        b.gives(doubles, 0x7ff8000000000000L, 0, 0);
        b.gives(doubles, 0x7ff8000000000000L, Long.MIN_VALUE, 0);
        b.gives(doubles, longOne, longOne, longOne);
        b.took(1, 0);
    }

    private static void sizeBelowNone() {
        Bench b = bench("4 SIZE: below 0 (5)");
        int made = b.make(Bench.NEW, INT);
        for (int many : new int[] {-1, -2, LEAST}) {
            b.fails(made, 4, made, many);
            b.due("count(0)", b.x.count(0), 0);
        }
        b.gives(made, 0, 0);
        b.gives(made, 1, 1);
        b.due("size(0)", b.x.size(0), 0);
        b.due("size(1)", b.x.size(1), 1);
    }

    private static void cast() {
        for (int lane = 0; lane <= 7; lane++) {
            Bench b = bench("5 CAST: a ROW of another LANE (10; none goes)");
            int cast = b.make(Bench.CAST, lane);
            b.gives(cast, -1, -1);
            for (int other = 0; other <= 7; other++) {
                b.row(other, 0);
            }
            for (int other = 0; other <= 7; other++) {
                if (other == lane) {
                    b.gives(cast, other, other);
                } else {
                    b.fails(cast, 5, cast, other);
                }
            }
            b.gives(cast, -1, -1);
            b.took(1, 0);
        }
    }

    private static void fullByItems() {
        Bench b = bench("6 FULL: 5 of more than 8 (behind 4)");
        int made = b.make(Bench.NEW, INT);
        for (int many : new int[] {9, 10, 16, 256, MOST}) {
            b.fails(made, 6, made, many);
            b.due("count(0)", b.x.count(0), 0);
        }
        b.gives(made, 0, 7);
        b.gives(made, 1, 8);
        b.due("size(0)", b.x.size(0), 7);
        b.due("size(1)", b.x.size(1), 8);
    }

    private static void fullByRows() {
        Bench b = bench("6 FULL: or 16 ROWS are there");
        int made = b.make(Bench.NEW, INT);
        for (int row = 0; row < 14; row++) {
            b.row(LONG);
        }
        b.gives(made, 14, 1);
        b.gives(made, 15, 1);
        for (int many : new int[] {0, 1, 8, 9, MOST}) {
            b.fails(made, 6, made, many);
        }
        // SIZE is ahead of FULL.
        b.fails(made, 4, made, -1);
        b.fails(made, 4, made, LEAST);
        b.due("count(0)", b.x.count(0), 16);
    }

    private static void ownCodes() {
        for (int kind = 0; kind <= 16; kind++) {
            Bench b = bench("9 FAIL: it FAILS by 20 and b");
            for (int code = 0; code <= 9; code++) {
                int made = fail(b, kind, code);
                b.type(kind);
                b.runs(made, true, -30 - code);
                b.due("last(2)", b.x.last(2), made);
            }
        }
    }

    private static void answersOfFailures() {
        for (int code : CODES) {
            Bench b = bench("-10 less a FAILURE; the HANDLE whose own act FAILED");
            int[] failing = failing(b, code);
            b.fails(failing[0], code, failing[1]);
            b.took(failing[2], 1);
        }
        Bench b = bench("-10 less a FAILURE");
        int sum = b.make(Bench.SUM, INT);
        int loop = b.make(Bench.LOOP, sum);
        b.fails(loop, 7, sum, 2000, 0);
    }

    /** Of each code, by each number that CATCH may have: it holds by that, and by -1, alone. */
    private static void caughtByItsCodeAlone() {
        for (int code : CODES) {
            Bench b = bench("19 CATCH: if h FAILS by b (-1: by any but 7)");
            int[] failing = failing(b, code);
            int self = b.make(Bench.SELF, INT);
            for (int by : CODES) {
                int made = b.make(Bench.CATCH, failing[0], by, self);
                if (by == code) {
                    b.gives(made, code);
                    b.due("last(2)", b.x.last(2), failing[1]);
                } else {
                    b.fails(made, code, failing[1]);
                }
                b.due("last(1)", b.x.last(1), 1);
            }
            b.gives(b.make(Bench.CATCH, failing[0], -1, self), code);
            b.took(failing[2] + 2, 1);
        }
    }

    private static void catchGivesTheNumber() {
        Bench b = bench("19 CATCH: g of the number of the FAILURE and these; as h");
        int quotient = b.make(Bench.QUOTIENT, INT);
        int sum = b.make(Bench.SUM, INT);
        int first = b.make(Bench.DROP, sum, 2, INT);
        int second = b.make(Bench.DROP, sum, 1, INT);
        b.gives(b.make(Bench.CATCH, quotient, 3, sum), 13, 10, 0);
        b.gives(b.make(Bench.CATCH, quotient, 3, first), 13, 10, 0);
        b.gives(b.make(Bench.CATCH, quotient, 3, second), 3, 10, 0);
        b.gives(b.make(Bench.CATCH, quotient, 3, b.make(Bench.SELF, INT)), 3, 10, 0);
        b.gives(b.make(Bench.CATCH, quotient, 3, sum), 5, 10, 2);
        b.took(2, 0);
        b.gives(b.make(Bench.CATCH, quotient, -1, sum), 5, 10, 2);
        b.took(2, 0);
    }

    private static void sumsWrapAround() {
        Bench b = bench("6 SUM a (4 .. 7), around the ends");
        int ints = b.make(Bench.SUM, INT);
        int longs = b.make(Bench.SUM, LONG);
        b.gives(ints, MOST, MOST - 1, 1);
        b.gives(ints, LEAST, MOST, 1);
        b.gives(ints, LEAST + 1, MOST, 2);
        b.gives(ints, LEAST, LEAST + 1, -1);
        b.gives(ints, MOST, LEAST, -1);
        b.gives(ints, 0, LEAST, LEAST);
        b.gives(ints, -2, MOST, MOST);
        b.gives(ints, -1, MOST, LEAST);
        b.gives(longs, MOST + 1L, MOST, 1);
        b.gives(longs, LEAST - 1L, LEAST, -1);
        b.gives(longs, Long.MAX_VALUE, Long.MAX_VALUE - 1, 1);
        b.gives(longs, Long.MIN_VALUE, Long.MAX_VALUE, 1);
        b.gives(longs, Long.MAX_VALUE, Long.MIN_VALUE, -1);
        b.gives(longs, Long.MIN_VALUE, Long.MIN_VALUE + 1, -1);
        b.gives(longs, 0, Long.MIN_VALUE, Long.MIN_VALUE);
    }

    private static void quotientsWrapAround() {
        Bench b = bench("7 QUOTIENT: the first one by the second one, around the ends");
        int ints = b.make(Bench.QUOTIENT, INT);
        int longs = b.make(Bench.QUOTIENT, LONG);
        b.gives(ints, LEAST, LEAST, -1);
        b.gives(ints, MOST, LEAST + 1, -1);
        b.gives(ints, -MOST, MOST, -1);
        b.gives(ints, LEAST, LEAST, 1);
        b.gives(longs, -(long) LEAST, LEAST, -1);
        b.gives(longs, Long.MIN_VALUE, Long.MIN_VALUE, -1);
        b.gives(longs, Long.MAX_VALUE, Long.MIN_VALUE + 1, -1);
        // Towards 0, on either side of it.
        b.gives(ints, 0, 1, 2);
        b.gives(ints, 0, -1, 2);
        b.gives(ints, 1, 2, 2);
        b.gives(ints, 1, 3, 2);
        b.gives(ints, -1, -3, 2);
        b.gives(ints, -1, 3, -2);
        b.gives(longs, -1, -3, 2);
        b.gives(longs, 0, MOST, 1L << 31);
    }

    private static void above() {
        Bench b = bench("8 ABOVE: the first one is above the second one");
        int ints = b.make(Bench.ABOVE, INT);
        int longs = b.make(Bench.ABOVE, LONG);
        long[] numbers = {-1, 0, 1};
        for (long first : numbers) {
            for (long second : numbers) {
                b.gives(ints, first > second ? 1 : 0, first, second);
                b.gives(longs, first > second ? 1 : 0, first, second);
            }
        }
        b.gives(ints, 1, MOST, LEAST);
        b.gives(ints, 0, LEAST, MOST);
        b.gives(longs, 1, Long.MAX_VALUE, Long.MIN_VALUE);
        b.gives(longs, 0, Long.MIN_VALUE, Long.MAX_VALUE);
        float[] reals = {Float.NEGATIVE_INFINITY, -Float.MAX_VALUE, -1, -Float.MIN_VALUE, -0f, 0f,
            Float.MIN_VALUE, 1, Float.MAX_VALUE, Float.POSITIVE_INFINITY, Float.NaN};
        for (int i = 0; i < reals.length; i++) {
            for (int j = Math.max(0, i - 1); j < Math.min(i + 2, reals.length); j++) {
                aboveOfReals(reals[i], reals[j]);
            }
        }
        aboveOfReals(Float.NaN, Float.NEGATIVE_INFINITY);
        aboveOfReals(Float.POSITIVE_INFINITY, Float.NaN);
    }

    private static void aboveOfReals(float first, float second) {
        Bench b = bench("8 ABOVE: the first one is above the second one");
        int isSo = first > second ? 1 : 0;
        b.gives(b.make(Bench.ABOVE, Bench.FLOAT), isSo, Float.floatToIntBits(first),
            Float.floatToIntBits(second));
        b.gives(b.make(Bench.ABOVE, Bench.DOUBLE), isSo, Double.doubleToLongBits(first),
            Double.doubleToLongBits(second));
    }

    private static void realsAtTheirEnds() {
        String sentence = "6 SUM, 7 QUOTIENT of floats and doubles, at their ends";
        float[] floats = {Float.MAX_VALUE, Float.MIN_NORMAL, Float.MIN_VALUE, 2, 0.5f, 3,
            Float.POSITIVE_INFINITY, 0x1p103f, 0x1.fffffep102f, 0, -0f, Float.NaN, 1, 0x1p-24f,
            0x1.000002p-24f, 0x1.000002p0f, 0x1p-62f, 0x1p-63f, -1, 0x1p-126f, 0x1p24f};
        for (float first : floats) {
            for (float second : floats) {
                Bench b = bench(sentence);
                int sum = b.make(Bench.SUM, Bench.FLOAT);
                int x = Float.floatToIntBits(first);
                int y = Float.floatToIntBits(second);
                b.gives(sum, Float.floatToIntBits(first + second), x, y);
                b.gives(sum, Float.floatToIntBits(first - second), x, y ^ LEAST);
                int quotient = b.make(Bench.QUOTIENT, Bench.FLOAT);
                b.gives(quotient, Float.floatToIntBits(first / second), x, y);
                b.gives(quotient, Float.floatToIntBits(first / -second), x, y ^ LEAST);
            }
        }
        double[] doubles = {Double.MAX_VALUE, Double.MIN_NORMAL, Double.MIN_VALUE, 2, 0.5, 3,
            Double.POSITIVE_INFINITY, 0x1p970, 0x1.fffffffffffffp969, 0, -0.0, Double.NaN, 1,
            0x1p-53, 0x1.0000000000001p-53, 0x1.0000000000001p0, 0x1p-62, 0x1p-63, -1, 0x1p53};
        for (double first : doubles) {
            for (double second : doubles) {
                Bench b = bench(sentence);
                int sum = b.make(Bench.SUM, Bench.DOUBLE);
                long x = Double.doubleToLongBits(first);
                long y = Double.doubleToLongBits(second);
                b.gives(sum, Double.doubleToLongBits(first + second), x, y);
                b.gives(sum, Double.doubleToLongBits(first - second), x, y ^ Long.MIN_VALUE);
                int quotient = b.make(Bench.QUOTIENT, Bench.DOUBLE);
                b.gives(quotient, Double.doubleToLongBits(first / second), x, y);
                b.gives(quotient, Double.doubleToLongBits(first / -second), x,
                    y ^ Long.MIN_VALUE);
            }
        }
    }

    private static void guardOfTruths() {
        Bench b = bench("18 GUARD: h, if it is true, else g");
        int h = b.constant(INT, 5);
        int g = b.constant(INT, 6);
        b.gives(b.make(Bench.GUARD, b.constant(Bench.TRUTH, 1), h, g), 5);
        b.gives(b.make(Bench.GUARD, b.constant(Bench.TRUTH, 0), h, g), 6);
        int t = b.make(Bench.SELF, Bench.TRUTH);
        int ofTruth = b.make(Bench.GUARD, t, b.dropping(h, 0), b.dropping(g, 0));
        for (long truth : new long[] {-1, 1, 2, 256, 1L << 32, Long.MIN_VALUE}) {
            b.gives(ofTruth, 5, truth);
        }
        b.gives(ofTruth, 6, 0);
    }

    private static void loopTimes() {
        Bench b = bench("21 LOOP: n times in all (none: the second one itself)");
        int sum = b.make(Bench.SUM, INT);
        int loop = b.make(Bench.LOOP, b.make(Bench.FILTER, sum, 1, b.bind(sum, 1)));
        for (int n : new int[] {LEAST, -2, -1, 0}) {
            b.gives(loop, 50, n, 50);
            b.took(1, 0);
        }
        b.gives(loop, 51, 1, 50);
        b.took(1 + 4, 0);
        b.gives(loop, 53, 2, 50);
        b.took(1 + 8, 0);
        b.gives(loop, 56, 3, 50);
        // As many as 32 bits hold: none of them, by an int.
        b.gives(loop, 50, 1L << 32, 50);
        b.gives(loop, 51, (1L << 32) + 1, 50);
        int fail = fail(b, INT, 4);
        int fails = b.make(Bench.LOOP, b.dropping(fail, INT, INT));
        b.gives(fails, 50, 0, 50);
        b.gives(fails, 50, -1, 50);
        b.fails(fails, 24, fail, 1, 50);
        b.took(1 + 3, 1);
    }

    private static void loopCounts() {
        Bench b = bench("21 LOOP: h of the second one and 0, then of what that gave and 1, ..");
        int count = b.make(Bench.DROP, b.make(Bench.SELF, INT), 0, INT);
        int loop = b.make(Bench.LOOP, count);
        for (int n = 1; n <= 4; n++) {
            b.gives(loop, n - 1, n, 77);
        }
        // The others are the same each time, whatever h gave.
        Bench other = bench("21 LOOP: the others are the same each time");
        int sum = other.make(Bench.SUM, LONG);
        int third = other.make(Bench.DROP, other.make(Bench.DROP, sum, 1, INT), 2, LONG);
        int last = other.make(Bench.SWAP, third, 2);
        other.gives(other.make(Bench.LOOP, third), 5 + 3 * 100, 3, 5, 7, 100);
        other.gives(other.make(Bench.LOOP, last), 5 + 3 * 7, 3, 5, 7, 100);
    }

    private static void atLastOfNone() {
        for (int kind = 0; kind <= 16; kind++) {
            Bench b = bench("20 LAST: g of that number, 0 (of ROWS none), and these");
            if (kind < 8) {
                b.row(kind, 1);
                // g writes what it is given for the result.
                int writes = b.bind(b.bind(b.make(Bench.WRITE, kind), 0), 0);
                int g = b.make(Bench.DROP, writes, 0, INT);
                int fail = fail(b, kind, 5);
                b.fails(b.make(Bench.LAST, fail, g), 25, fail);
                b.items(0, 0);
                b.gives(b.make(Bench.LAST, b.constant(kind, 1), g), 0);
                b.items(0, 1);
            } else if (kind < 16) {
                b.row(kind - 8);
                // g fails by NOTHING, where what it is given is none.
                int size = b.make(Bench.SIZE, kind - 8);
                int sized = b.make(Bench.THEN, size, b.shape(kind, INT));
                int g = b.make(Bench.DROP, sized, 0, INT);
                int fail = fail(b, kind, 5);
                b.fails(b.make(Bench.LAST, fail, g), 1, size);
                b.gives(b.make(Bench.LAST, b.constant(kind, 0), g), -1);
            } else {
                b.row(INT);
                // g casts it: a row of another lane fails, none does not.
                int cast = b.make(Bench.CAST, LONG);
                int sized = b.make(Bench.THEN, cast, b.shape(16, 8 + LONG));
                int g = b.make(Bench.DROP, sized, 0, INT);
                int fail = fail(b, kind, 5);
                b.fails(b.make(Bench.LAST, fail, g), 25, fail);
                b.fails(b.make(Bench.LAST, b.constant(16, 0), g), 5, cast);
                b.gives(b.make(Bench.LAST, b.constant(16, -1), g), -1);
            }
        }
    }

    private static void atLastGoesOn() {
        for (int code : CODES) {
            Bench b = bench("20 LAST: g of that number; then (if g did not FAIL) h's goes on");
            int[] failing = failing(b, code);
            int row = b.row(INT, 50);
            int writes = b.bind(b.bind(b.make(Bench.WRITE, INT), row), 0);
            int g = b.make(Bench.DROP, writes, 1, INT);
            b.fails(b.make(Bench.LAST, failing[0], g), code, failing[1]);
            b.items(row, code);
            b.took(1 + failing[2] + 4, 1);
            // h gives: g of 0.
            b.gives(b.make(Bench.LAST, b.constant(INT, 9), g), code);
            b.items(row, 0);
            // g fails: that is it.
            int own = fail(b, INT, code == 29 ? 8 : 9);
            b.fails(b.make(Bench.LAST, failing[0], b.dropping(own, INT, INT)),
                code == 29 ? 28 : 29, own);
            b.due("last(1)", b.x.last(1), 2);
        }
    }

    /** A loop of n times, then one of no parameters: 3 + n steps ahead of it. */
    private static int behindLoop(Bench b, int one) {
        int loop = b.make(Bench.LOOP, b.make(Bench.SUM, INT));
        return b.make(Bench.THEN, loop, b.make(Bench.DROP, one, 0, INT));
    }

    private static void stepsAtTheirMost() {
        Bench b = bench("7 SPENT: the 2001st STEP of a run; STEPS (the 2001st not)");
        int sum = b.make(Bench.SUM, INT);
        int loop = b.make(Bench.LOOP, sum);
        b.gives(loop, 1998 * 1997 / 2, 1998, 0);
        b.took(1999, 0);
        b.gives(loop, 1999 * 1998 / 2, 1999, 0);
        b.took(2000, 0);
        for (int n : new int[] {2000, 2001, 2002, 4000, MOST}) {
            b.fails(loop, 7, sum, n, 0);
            b.took(2000, 0);
        }
        b.gives(loop, 1999 * 1998 / 2, 1999, 0);
        b.took(2000, 0);
    }

    /** Each sort as the 2001st step, and what it is made of: what begins, in its order. */
    private static void stepsSpentAtEach() {
        for (int which = 0; which < 24; which++) {
            Bench b = bench("7 SPENT: of 7: that at which it came (" + which + ")");
            int[] begins = begins(b, which);
            int value = begins[0];
            int steps = begins.length - 1;
            int behind = behindLoop(b, begins[1]);
            int n = STEPS_MOST - 3 - steps;
            for (int less = 0; less <= 1; less++) {
                b.gives(behind, value, n - less, 0);
                b.due("last(0)", b.x.last(0), STEPS_MOST - less);
            }
            for (int more = 1; more <= steps; more++) {
                b.fails(behind, 7, begins[1 + steps - more], n + more, 0);
                b.due("last(0)", b.x.last(0), STEPS_MOST);
            }
            b.fails(behind, 7, b.make(Bench.DROP, begins[1], 0, INT), n + steps + 1, 0);
            b.fails(behind, 7, b.make(Bench.SUM, INT), n + steps + 2, 0);
            b.fails(behind, 7, b.make(Bench.SUM, INT), MOST, 0);
        }
    }

    private static int[] begins(Bench b, int which) {
        int self = b.make(Bench.SELF, INT);
        int sum = b.make(Bench.SUM, INT);
        int five = b.constant(INT, 5);
        return which < 11 ? beginsAlone(b, which, five) : beginsMade(b, which, self, sum, five);
    }

    private static int[] beginsAlone(Bench b, int which, int five) {
        int row = b.row(INT, 8, 9);
        int act = 0;
        int bound = 0;
        int size = b.make(Bench.SIZE, INT);
        switch (which) {
            case 0:
                return new int[] {5, five};
            case 1:
                act = b.make(Bench.SELF, INT);
                return new int[] {6, b.bind(act, 6), act};
            case 2:
                act = b.make(Bench.READ, INT);
                bound = b.bind(act, row);
                return new int[] {9, b.bind(bound, 1), bound, act};
            case 3:
                act = b.make(Bench.WRITE, INT);
                bound = b.bind(act, row);
                int twice = b.bind(bound, 1);
                return new int[] {9, b.bind(twice, 9), twice, bound, act};
            case 4:
                return new int[] {2, b.bind(size, row), size};
            case 5:
            case 10:
                act = b.make(which == 5 ? Bench.NEW : Bench.CAST, INT);
                bound = b.bind(act, which == 5 ? 2 : row);
                return new int[] {2, b.make(Bench.THEN, bound, size), bound, act, size};
            case 9:
                act = fail(b, INT, 0);
                int self = b.make(Bench.SELF, INT);
                return new int[] {20, b.make(Bench.CATCH, act, 20, self), act, self};
            case 8:
                act = b.make(Bench.ABOVE, INT);
                bound = b.bind(act, 1);
                int t = b.bind(bound, 0);
                return new int[] {5, b.make(Bench.GUARD, t, five, five), t, bound, act, five};
            default:
                act = b.make(which, INT);
                bound = b.bind(act, 6);
                return new int[] {which == 6 ? 8 : 3, b.bind(bound, 2), bound, act};
        }
    }

    private static int[] beginsMade(Bench b, int which, int self, int sum, int five) {
        int made = 0;
        switch (which) {
            case 11:
                made = b.dropping(five, INT);
                return new int[] {5, b.bind(made, 1), made, five};
            case 12:
                made = b.make(Bench.SWAP, sum, 0);
                int bound = b.bind(made, 1);
                return new int[] {3, b.bind(bound, 2), bound, made, sum};
            case 13:
                made = b.make(Bench.TWICE, sum);
                return new int[] {4, b.bind(made, 2), made, sum};
            case 14:
                made = b.bind(sum, 2);
                return new int[] {4, b.bind(made, 2), made, sum};
            case 15:
                made = b.make(Bench.FILTER, self, 0, self);
                return new int[] {4, b.bind(made, 4), made, self, self};
            case 16:
                return new int[] {5, b.make(Bench.FOLD, self, five), five, self};
            case 17:
                return new int[] {5, b.make(Bench.THEN, five, self), five, self};
            case 18:
                made = b.constant(Bench.TRUTH, 0);
                int six = b.constant(INT, 6);
                return new int[] {5, b.make(Bench.GUARD, made, six, five), made, five};
            case 19:
                return new int[] {5, b.make(Bench.CATCH, five, -1, self), five};
            case 20:
                return new int[] {5, b.make(Bench.LAST, five, sum), five, sum};
            case 22:
                b.type(INT);
                return new int[] {5, b.make(Bench.AS, five), five};
            case 23:
                // What LAST lets go on is spent with g, and held with what comes behind it.
                int fail = fail(b, INT, 0);
                made = b.make(Bench.LAST, fail, sum);
                return new int[] {20, b.make(Bench.CATCH, made, 20, self), made, fail, sum, self};
            default:
                made = b.make(Bench.LOOP, sum);
                int twice = b.bind(made, 2);
                return new int[] {4, b.bind(twice, 3), twice, made, sum, sum};
        }
    }

    private static void spentByStepsIsNotHeld() {
        String sentence = "7 SPENT: nothing holds it, no g of 20 is run";
        for (int by : new int[] {-1, 1, 2, 3, 4, 5, 6, 20, 27, 29}) {
            Bench b = bench(sentence);
            int sum = b.make(Bench.SUM, INT);
            int loop = b.make(Bench.LOOP, sum);
            int held = b.make(Bench.CATCH, loop, by, b.make(Bench.SELF, INT));
            b.gives(held, 1998 * 1997 / 2, 1998, 0);
            b.took(2000, 0);
            b.fails(held, 7, sum, 1999, 0);
            b.took(2000, 0);
        }
        Bench b = bench(sentence);
        b.row(INT, 50);
        int writes = b.bind(b.bind(b.make(Bench.WRITE, INT), 0), 0);
        int g = b.make(Bench.DROP, writes, 1, INT);
        int sum = b.make(Bench.SUM, INT);
        int last = b.make(Bench.LAST, b.make(Bench.LOOP, sum), g);
        // LAST, LOOP, then n; g is of four: its last one is the 2000th.
        b.fails(last, 7, sum, 1999, 0);
        b.items(0, 50);
        b.fails(last, 7, b.make(Bench.WRITE, INT), 1995, 0);
        b.items(0, 50);
        b.gives(last, 50, 1994, 0);
        b.took(2000, 0);
        b.items(0, 0);
    }

    /** Each time of the loop: two that drop, CATCH, what fails, and SELF of its number. */
    private static int failingLoop(Bench b, int[] failing) {
        int caught = b.make(Bench.CATCH, failing[0], -1, b.make(Bench.SELF, INT));
        return b.make(Bench.LOOP, b.dropping(caught, INT, INT));
    }

    private static void failuresAtTheirMost() {
        for (int code : CODES) {
            Bench b = bench("7 SPENT: the 25th FAILURE of it (1 to 6, 20 and more, those caught)");
            int[] failing = failing(b, code);
            int loop = failingLoop(b, failing);
            int each = 4 + failing[2];
            for (int n = 23; n <= 24; n++) {
                b.gives(loop, code, n, 0);
                b.took(1 + n * each, n);
                b.due("last(2)", b.x.last(2), failing[1]);
            }
            for (int n : new int[] {25, 26, 2000}) {
                b.fails(loop, 7, failing[1], n, 0);
                b.took(FAILURES_MOST * each + each, FAILURES_MOST);
            }
            b.gives(loop, code, 24, 0);
        }
    }

    /** n that are caught, then one that is not: the 24th goes on by its number, the 25th by 7. */
    private static void failuresLeftOpen() {
        for (int code : CODES) {
            Bench b = bench("7 SPENT: each where it comes from; it is 7 instead");
            int[] failing = failing(b, code);
            int loop = failingLoop(b, failing);
            int open = b.make(Bench.THEN, loop, b.dropping(failing[0], INT));
            b.fails(open, code, failing[1], 0, 0);
            b.due("last(1)", b.x.last(1), 1);
            b.fails(open, code, failing[1], 22, 0);
            b.due("last(1)", b.x.last(1), 23);
            b.fails(open, code, failing[1], 23, 0);
            b.due("last(1)", b.x.last(1), 24);
            b.fails(open, 7, failing[1], 24, 0);
            b.due("last(1)", b.x.last(1), 24);
        }
    }

    private static void spentByFailuresIsNotHeld() {
        String sentence = "7 SPENT: nothing holds it, no g of 20 is run";
        for (int by : new int[] {-1, 1, 6, 20, 23, 29}) {
            Bench b = bench(sentence);
            int[] failing = failing(b, 23);
            int loop = failingLoop(b, failing);
            int open = b.make(Bench.THEN, loop, b.dropping(failing[0], INT));
            int held = b.make(Bench.CATCH, open, by, b.make(Bench.SELF, INT));
            if (by == -1 || by == 23) {
                b.gives(held, 23, 23, 0);
            } else {
                b.fails(held, 23, failing[1], 23, 0);
            }
            b.due("last(1)", b.x.last(1), 24);
            b.fails(held, 7, failing[1], 24, 0);
            b.due("last(1)", b.x.last(1), 24);
        }
        Bench b = bench(sentence);
        b.row(INT, 50);
        int writes = b.bind(b.bind(b.make(Bench.WRITE, INT), 0), 0);
        int[] failing = failing(b, 29);
        int open = b.make(Bench.THEN, failingLoop(b, failing), b.dropping(failing[0], INT));
        int last = b.make(Bench.LAST, open, b.make(Bench.DROP, writes, 1, INT));
        b.fails(last, 7, failing[1], 24, 0);
        b.items(0, 50);
        b.fails(last, 29, failing[1], 23, 0);
        b.items(0, 29);
        // h gives behind 24, g fails: the 25th.
        int g = b.dropping(failing[0], INT, INT);
        int failsLast = b.make(Bench.LAST, failingLoop(b, failing), g);
        b.fails(failsLast, 29, failing[1], 23, 0);
        b.fails(failsLast, 7, failing[1], 24, 0);
    }

    /** Writes, then fails by each code: also by 7, of steps and of failures. */
    private static void writtenStays() {
        for (int code : CODES) {
            Bench b = bench("What was WRITTEN stays");
            int[] failing = failing(b, code);
            int row = b.row(INT, 1, 2);
            int writes = b.bind(b.bind(b.make(Bench.WRITE, INT), row), 1);
            int both = b.make(Bench.THEN, writes, b.dropping(failing[0], INT));
            b.fails(both, code, failing[1], 40);
            b.items(row, 1, 40);
            // Where it is caught, too.
            b.gives(b.make(Bench.CATCH, both, code, b.make(Bench.SELF, INT)), code, 41);
            b.items(row, 1, 41);
        }
        Bench b = bench("What was WRITTEN stays");
        b.row(INT, 1);
        int sum = b.make(Bench.SUM, INT);
        int loop = b.make(Bench.LOOP, sum);
        int writes = b.bind(b.bind(b.make(Bench.WRITE, INT), 0), 0);
        int long2000 = b.bind(loop, 2000);
        b.fails(b.make(Bench.THEN, writes, long2000), 7, sum, 60);
        b.items(0, 60);
        int[] failing = failing(b, 20);
        int failing25 = b.bind(failingLoop(b, failing), 25);
        b.fails(b.make(Bench.THEN, writes, failing25), 7, failing[1], 61);
        b.items(0, 61);
        // The write that is the 2001st step itself is none.
        int behind = b.make(Bench.THEN, loop, writes);
        b.fails(behind, 7, b.make(Bench.WRITE, INT), 1996, 0);
        b.items(0, 61);
        b.gives(behind, 61, 1995, 0);
        b.items(0, 1995 * 1994 / 2);
    }

    private static void newStays() {
        for (int code : CODES) {
            Bench b = bench("What was NEW stays");
            int[] failing = failing(b, code);
            int many = b.x.count(0);
            int made = b.make(Bench.THEN, b.make(Bench.NEW, INT), b.make(Bench.SIZE, INT));
            int both = b.make(Bench.THEN, made, b.dropping(failing[0], INT));
            b.fails(both, code, failing[1], 3);
            b.due("count(0)", b.x.count(0), many + 1);
            b.due("size", b.x.size(many), 3);
        }
        // A loop makes sixteen, the next one fails; those stay.
        Bench b = bench("What was NEW stays");
        int made = b.make(Bench.NEW, INT);
        int size = b.make(Bench.SIZE, INT);
        int body = b.make(Bench.DROP, b.make(Bench.THEN, made, size), 1, INT);
        int loop = b.make(Bench.LOOP, body);
        b.gives(loop, 8, 15, 8);
        b.due("count(0)", b.x.count(0), 15);
        b.fails(loop, 6, made, 2, 8);
        b.due("count(0)", b.x.count(0), 16);
        b.due("size(15)", b.x.size(15), 8);
        b.due("size(16)", b.x.size(16), -1);
    }
}
