/** Promises 10 to 14, and what each sort does as it runs: answers, values, steps, failures. */
public final class RunTest {
    private static final Checks CHECKS = new Checks();

    private static ScoreHandles x;

    public static void main(String[] args) {
        give();
        numbersStay();
        orderOfAnswers();
        givenRows();
        alone();
        wholeNumbers();
        rowsReadAndWritten();
        lanesOfAllKinds();
        newRows();
        casts();
        arranged();
        filtered();
        folded();
        guarded();
        caught();
        caughtByCode();
        atLast();
        atLastOfFailures();
        looped();
        widened();
        spentBySteps();
        spentByFailures();
        deepest();
        valueAndLast();
        counts();
        CHECKS.end("RunTest");
    }

    private static void make(int sort, int a, int b, int c, long v, int want) {
        CHECKS.due("make(" + sort + ", " + a + ", " + b + ", " + c + ", " + v + ")",
            x.make(sort, a, b, c, v), want);
    }

    private static void type(int result, int... k) {
        int[] all = java.util.Arrays.copyOf(k, 4);
        CHECKS.due("type", x.type(result, k.length, all[0], all[1], all[2], all[3]), 1);
    }

    private static void given(long... numbers) {
        for (int k = 0; k < numbers.length; k++) {
            CHECKS.due("give", x.give(k, numbers[k]), 1);
        }
    }

    private static void ofItsType(int handle) {
        int n = x.told(handle, 1);
        CHECKS.due("type", x.type(x.told(handle, 2), n, x.told(handle, 3), x.told(handle, 4),
            x.told(handle, 5), x.told(handle, 6)), 1);
    }

    /** Runs it by its own type, exactly: its value and how many steps it takes. */
    private static void gives(int handle, long want, int steps, long... numbers) {
        ofItsType(handle);
        given(numbers);
        CHECKS.due("run(" + handle + ", true)", x.run(handle, true), 1);
        CHECKS.due("value of " + handle, x.value(), want);
        CHECKS.due("steps of " + handle, x.last(0), steps);
    }

    /** Runs it by its own type: it fails by a code, at a handle, after steps and failures. */
    private static void fails(int handle, int code, int at, int steps, int failures,
            long... numbers) {
        ofItsType(handle);
        given(numbers);
        CHECKS.due("run(" + handle + ", false)", x.run(handle, false), -10 - code);
        CHECKS.due("steps of " + handle, x.last(0), steps);
        CHECKS.due("failures of " + handle, x.last(1), failures);
        CHECKS.due("failed last of " + handle, x.last(2), at);
    }

    private static void give() {
        x = new ScoreHandles();
        for (int k : new int[] {-1, 4, 5, Integer.MIN_VALUE, Integer.MAX_VALUE}) {
            CHECKS.due("give(" + k + ")", x.give(k, 1), -1);
        }
        for (int k = 0; k < 4; k++) {
            CHECKS.due("give(" + k + ")", x.give(k, Long.MIN_VALUE), 1);
        }
    }

    private static void numbersStay() {
        x = new ScoreHandles();
        make(1, 5, 0, 0, 0, 0);
        make(11, 0, 0, 5, 0, 1);
        given(257, 258);
        type(5, 5);
        CHECKS.due("run", x.run(0, true), 1);
        CHECKS.due("number 0", x.value(), 257);
        type(5, 1);
        CHECKS.due("run", x.run(0, false), 1);
        CHECKS.due("number 0 as a byte", x.value(), 1);
        type(5, 5, 5);
        CHECKS.due("run", x.run(1, true), 1);
        CHECKS.due("number 1", x.value(), 258);
        x.give(4, 9);
        CHECKS.due("run", x.run(1, true), 1);
        CHECKS.due("number 1 stays", x.value(), 258);
    }

    private static void orderOfAnswers() {
        x = new ScoreHandles();
        x.row(4, 1);
        make(1, 12, 0, 0, 0, 0);
        type(12, 15);
        given(5);
        for (int handle : new int[] {-1, 1, 32, Integer.MIN_VALUE, Integer.MAX_VALUE}) {
            CHECKS.due("run(" + handle + ")", x.run(handle, true), -1);
            CHECKS.due("run(" + handle + ")", x.run(handle, false), -1);
        }
        CHECKS.due("wrong before bad", x.run(0, true), -4);
        CHECKS.due("wrong before bad", x.run(0, false), -4);
        type(16, 12);
        CHECKS.due("exact", x.run(0, true), -4);
        CHECKS.due("bad row", x.run(0, false), -1);
        given(0);
        CHECKS.due("exact", x.run(0, true), -4);
        CHECKS.due("as it goes", x.run(0, false), 1);
        CHECKS.due("value", x.value(), 0);
        type(12, 16);
        CHECKS.due("any row goes to none", x.run(0, false), -4);
        CHECKS.due("count(2)", x.count(2), 1);
    }

    private static void givenRows() {
        x = new ScoreHandles();
        x.row(4, 1);
        x.row(7, 1);
        make(1, 16, 0, 0, 0, 0);
        make(11, 0, 1, 15, 0, 1);
        type(16, 12, 15);
        rowsGiven(0, 1, 1);
        rowsGiven(-1, -1, 1);
        rowsGiven(1, 1, -1);
        rowsGiven(0, 0, -1);
        rowsGiven(2, 1, -1);
        rowsGiven(0, 2, -1);
        rowsGiven(-2, 1, -1);
        rowsGiven(1L << 32, 1, -1);
        rowsGiven(0, (1L << 32) + 1, -1);
        rowsGiven(0xffffffffL, 1, -1);
        type(16, 16, 15);
        rowsGiven(1, 1, 1);
        rowsGiven(0, 1, 1);
        rowsGiven(0, 0, -1);
        rowsGiven(2, 1, -1);
        type(16, 16);
        given(1, 77);
        CHECKS.due("those beyond are not looked at", x.run(0, true), 1);
        CHECKS.due("value", x.value(), 1);
    }

    private static void rowsGiven(long first, long second, int want) {
        given(first, second);
        CHECKS.due("rows " + first + ", " + second, x.run(1, false), want);
    }

    private static void alone() {
        long[] bits = {2, 255, 65535, -1, 1L << 31, Long.MIN_VALUE, 0x80000000L, 1L << 63, -1};
        long[] want = {1, -1, -1, 65535, Integer.MIN_VALUE, Long.MIN_VALUE, Integer.MIN_VALUE,
            Long.MIN_VALUE, -1};
        for (int kind = 0; kind <= 8; kind++) {
            x = new ScoreHandles();
            make(0, kind, 0, 0, bits[kind], 0);
            make(1, kind, 0, 0, 0, 1);
            make(9, kind, kind, 0, 0, 2);
            gives(0, want[kind], 1);
            gives(1, want[kind], 1, bits[kind]);
            fails(2, 20 + kind, 2, 1, 1);
        }
    }

    private static void wholeNumbers() {
        x = new ScoreHandles();
        for (int sort = 6; sort <= 8; sort++) {
            make(sort, 4, 0, 0, 0, 2 * sort - 12);
            make(sort, 5, 0, 0, 0, 2 * sort - 11);
        }
        int most = Integer.MAX_VALUE;
        int least = Integer.MIN_VALUE;
        gives(0, least, 1, most, 1);
        gives(0, most, 1, least, -1);
        gives(1, 1L << 31, 1, most, 1);
        gives(1, Long.MIN_VALUE, 1, Long.MAX_VALUE, 1);
        gives(2, -3, 1, -7, 2);
        gives(2, -3, 1, 7, -2);
        gives(2, least, 1, least, -1);
        gives(3, Long.MIN_VALUE, 1, Long.MIN_VALUE, -1);
        gives(3, 1L << 40, 1, 1L << 41, 2);
        fails(2, 3, 2, 1, 1, 5, 0);
        fails(2, 3, 2, 1, 1, 0, 0);
        fails(2, 3, 2, 1, 1, 5, 1L << 32);
        fails(3, 3, 3, 1, 1, 5, 0);
        gives(3, 0, 1, 5, 1L << 32);
        gives(4, 1, 1, 5, 4);
        gives(4, 0, 1, 5, 5);
        gives(4, 0, 1, -5, 5);
        gives(4, 1, 1, most, least);
        gives(5, 1, 1, Long.MAX_VALUE, Long.MIN_VALUE);
        gives(5, 0, 1, Long.MIN_VALUE, Long.MAX_VALUE);
        gives(5, 1, 1, 1L << 32, 1);
    }

    private static void rowsReadAndWritten() {
        x = new ScoreHandles();
        x.row(4, 3);
        x.row(4, 0);
        x.put(0, 2, 33);
        make(2, 4, 0, 0, 0, 0);
        make(3, 4, 0, 0, 0, 1);
        make(4, 4, 0, 0, 0, 2);
        gives(0, 33, 1, 0, 2);
        gives(0, 0, 1, 0, 0);
        gives(1, 33, 1, 0, 2, 44);
        CHECKS.due("item written", x.item(0, 2), 44);
        gives(1, 44, 1, 0, 2, 45);
        gives(1, 0, 1, 0, 0, -1);
        CHECKS.due("item written", x.item(0, 0), -1);
        gives(2, 3, 1, 0);
        gives(2, 0, 1, 1);
        fails(0, 1, 0, 1, 1, -1, 0);
        fails(0, 1, 0, 1, 1, -1, -1);
        fails(1, 1, 1, 1, 1, -1, 9, 5);
        fails(2, 1, 2, 1, 1, -1);
        for (int i : new int[] {-1, 3, 8, Integer.MAX_VALUE, Integer.MIN_VALUE}) {
            fails(0, 2, 0, 1, 1, 0, i);
            fails(1, 2, 1, 1, 1, 0, i, 5);
        }
        fails(0, 2, 0, 1, 1, 1, 0);
        CHECKS.due("item stays", x.item(0, 2), 45);
        CHECKS.due("item stays", x.item(0, 0), -1);
    }

    private static void lanesOfAllKinds() {
        for (int lane = 0; lane < 8; lane++) {
            x = new ScoreHandles();
            x.row(lane, 8);
            make(2, lane, 0, 0, 0, 0);
            make(3, lane, 0, 0, 0, 1);
            make(4, lane, 0, 0, 0, 2);
            gives(1, 0, 1, 0, 7, 1);
            gives(1, 1, 1, 0, 7, 0);
            gives(1, 0, 1, 0, 7, 3);
            gives(0, lane == 0 ? 1 : 3, 1, 0, 7);
            gives(2, 8, 1, 0);
            CHECKS.due("item", x.item(0, 7), lane == 0 ? 1 : 3);
        }
    }

    private static void newRows() {
        x = new ScoreHandles();
        for (int lane = 0; lane < 8; lane++) {
            make(5, lane, 0, 0, 0, lane);
            gives(lane, lane, 1, lane + 1);
            CHECKS.due("size of what is new", x.size(lane), lane + 1);
            fails(lane, 4, lane, 1, 1, lane % 2 == 0 ? -1 : Integer.MIN_VALUE);
            fails(lane, 6, lane, 1, 1, lane % 2 == 0 ? 9 : Integer.MAX_VALUE);
        }
        make(2, 3, 0, 0, 0, 8);
        fails(8, 2, 8, 1, 1, 3, 4);
        gives(8, 0, 1, 3, 3);
        for (int i = 8; i < 16; i++) {
            gives(5, i, 1, 0);
        }
        fails(5, 6, 5, 1, 1, 0);
        fails(5, 4, 5, 1, 1, -1);
        CHECKS.due("row of a full one", x.row(4, 0), -2);
        CHECKS.due("count(0)", x.count(0), 16);
        CHECKS.due("size(15)", x.size(15), 0);
        // The row that was made last is of the lane that was asked for.
        make(0, 13, 0, 0, 15, 9);
        make(0, 12, 0, 0, 15, -1);
    }

    private static void casts() {
        for (int lane = 0; lane < 8; lane++) {
            x = new ScoreHandles();
            make(10, lane, 0, 0, 0, 0);
            for (int row = 0; row < 8; row++) {
                x.row(row, 1);
                if (lane == row) {
                    gives(0, row, 1, row);
                } else {
                    fails(0, 5, 0, 1, 1, row);
                }
            }
            gives(0, -1, 1, -1);
        }
    }

    private static void arranged() {
        x = new ScoreHandles();
        make(7, 5, 0, 0, 0, 0);
        make(11, 0, 0, 0, 0, 1);
        gives(1, 7, 2, 9, 21, 3);
        make(11, 0, 1, 5, 0, 2);
        gives(2, 7, 2, 21, 0, 3);
        make(11, 2, 3, 16, 0, 3);
        gives(3, 7, 3, 21, 0, 3, -1);
        make(12, 0, 0, 0, 0, 4);
        gives(4, 7, 2, 3, 21);
        make(11, 4, 0, 5, 0, 5);
        make(12, 5, 1, 0, 0, 6);
        gives(6, 7, 4, 0, 21, 3);
        make(12, 6, 0, 0, 0, 7);
        gives(7, 7, 5, 21, 0, 3);
        make(13, 0, 0, 0, 0, 8);
        gives(8, 1, 2, -5);
        fails(8, 3, 0, 2, 1, 0);
        make(13, 2, 0, 0, 0, 9);
        gives(9, 2, 3, 8, 4);
        make(14, 0, 0, 0, 100, 10);
        gives(10, 33, 2, 3);
        make(14, 10, 0, 0, 7, 11);
        gives(11, 14, 3);
        make(14, 3, 0, 0, -9, 12);
        gives(12, -3, 4, 0, 3, -1);
        fails(12, 3, 0, 4, 1, 3, 0, -1);
        make(13, 3, 0, 0, 0, 13);
        gives(13, 5, 4, 10, 2, -1);
    }

    /** The parameter that stands where it is filtered, and g before h. */
    private static void filtered() {
        x = new ScoreHandles();
        x.row(4, 2);
        x.put(0, 0, 21);
        make(7, 4, 0, 0, 0, 0);
        make(2, 4, 0, 0, 0, 1);
        make(14, 1, 0, 0, 0, 2);
        make(15, 0, 1, 2, 0, 3);
        gives(3, 3, 4, 63, 0);
        fails(3, 3, 0, 4, 1, 63, 1);
        fails(3, 2, 1, 3, 1, 63, 2);
        make(15, 0, 0, 2, 0, 4);
        gives(4, 7, 4, 0, 3);
        fails(4, 2, 1, 3, 1, 2, 0);
        make(15, 3, 0, 2, 0, 5);
        gives(5, 1, 7, 0, 0);
        make(4, 0, 0, 0, 0, 6);
        make(15, 0, 1, 6, 0, 7);
        fails(7, 1, 6, 2, 1, 4, -1);
        x.row(0, 2);
        gives(7, 2, 3, 4, 1);
        make(17, 0, 2, 0, 0, 8);
        gives(8, 21, 4, 5, 9);
        fails(8, 3, 0, 2, 1, 5, 0);
        fails(8, 2, 1, 4, 1, 50, 1);
    }

    private static void folded() {
        x = new ScoreHandles();
        make(7, 4, 0, 0, 0, 0);
        make(6, 4, 0, 0, 0, 1);
        // (x + y) / x, y is left over.
        make(11, 0, 2, 4, 0, 2);
        make(16, 2, 1, 0, 0, 3);
        gives(3, 4, 4, 5, 15);
        fails(3, 3, 0, 4, 1, 0, 15);
        make(0, 4, 0, 0, 100, 4);
        make(16, 0, 4, 0, 0, 5);
        gives(5, 25, 3, 4);
        make(9, 4, 2, 0, 0, 6);
        make(16, 0, 6, 0, 0, 7);
        fails(7, 22, 6, 2, 1, 4);
        // g runs first: what it wrote is read by h.
        x.row(4, 1);
        make(3, 4, 0, 0, 0, 8);
        make(2, 4, 0, 0, 0, 9);
        make(11, 9, 2, 4, 0, 10);
        make(11, 10, 0, 4, 0, 11);
        make(16, 11, 8, 0, 0, 12);
        gives(12, 77, 5, 0, 0, 77);
        gives(12, 78, 5, 0, 0, 78);
        make(17, 8, 0, 0, 0, -3);
    }

    private static void guarded() {
        x = new ScoreHandles();
        make(8, 4, 0, 0, 0, 0);
        make(6, 4, 0, 0, 0, 1);
        make(7, 4, 0, 0, 0, 2);
        make(18, 0, 1, 2, 0, 3);
        gives(3, 12, 3, 8, 4);
        gives(3, 0, 3, 4, 8);
        gives(3, 1, 3, 4, 4);
        fails(3, 3, 2, 3, 1, -1, 0);
        gives(3, 1, 3, 1, 0);
        // A truth of the first parameter alone, and of none.
        make(14, 0, 0, 0, 10, 4);
        make(18, 4, 1, 2, 0, 5);
        gives(5, 12, 4, 9, 3);
        gives(5, 3, 4, 10, 3);
        make(0, 0, 0, 0, 0, 6);
        make(18, 6, 1, 2, 0, 7);
        gives(7, 2, 3, 8, 4);
        make(0, 0, 0, 0, 256, 8);
        make(18, 8, 1, 2, 0, 9);
        gives(9, 12, 3, 8, 4);
        // What t wrote is read by what it chose; where t fails, neither runs.
        x.row(0, 2);
        x.row(4, 2);
        make(3, 0, 0, 0, 0, 10);
        make(14, 10, 0, 0, 0, 11);
        make(2, 0, 0, 0, 0, 12);
        make(14, 12, 0, 0, 0, 13);
        make(11, 13, 1, 0, 0, 14);
        make(11, 6, 0, 0, 0, 15);
        make(11, 15, 0, 4, 0, 16);
        make(18, 11, 16, 14, 0, 17);
        gives(17, 1, 6, 1, 1);
        gives(17, 0, 6, 1, 1);
        CHECKS.due("item that t wrote", x.item(0, 1), 1);
        gives(17, 0, 6, 1, 0);
        gives(17, 0, 6, 1, 0);
        fails(17, 2, 10, 3, 1, 2, 1);
    }

    private static void caught() {
        x = new ScoreHandles();
        make(7, 4, 0, 0, 0, 0);
        make(6, 4, 0, 0, 0, 1);
        make(1, 4, 0, 0, 0, 2);
        make(0, 4, 0, 0, 5, 3);
        make(11, 1, 2, 4, 0, 4);
        make(19, 0, -1, 2, 0, 5);
        gives(5, 4, 2, 8, 2);
        CHECKS.due("failed last", x.last(2), -1);
        gives(5, 3, 3, 8, 0);
        CHECKS.due("failures caught", x.last(1), 1);
        CHECKS.due("failed last", x.last(2), 0);
        make(19, 0, 3, 1, 0, 6);
        gives(6, 11, 3, 8, 0);
        make(19, 0, -1, 4, 0, 7);
        gives(7, 11, 4, 8, 0);
        make(19, 0, 2, 1, 0, 8);
        fails(8, 3, 0, 2, 1, 8, 0);
        // What fails in g goes on, and an outer one has it.
        make(9, 4, 7, 0, 0, 9);
        make(11, 9, 0, 4, 0, 10);
        make(19, 0, 3, 10, 0, 11);
        fails(11, 27, 9, 4, 2, 8, 0);
        make(19, 11, 3, 2, 0, 12);
        fails(12, 27, 9, 5, 2, 8, 0);
        make(19, 11, 27, 1, 0, 13);
        gives(13, 35, 6, 8, 0);
        CHECKS.due("failures caught", x.last(1), 2);
        CHECKS.due("failed last", x.last(2), 9);
        // All four parameters of h, of which g has the first three.
        make(11, 0, 2, 4, 0, 14);
        make(11, 14, 3, 4, 0, 15);
        make(11, 4, 3, 4, 0, 16);
        make(12, 16, 0, 0, 0, 17);
        make(12, 17, 1, 0, 0, 18);
        make(12, 18, 2, 0, 0, 19);
        make(19, 15, -1, 19, 0, 20);
        // 19 sums its fourth and its first: the third of h, and the number.
        gives(20, 43, 10, 8, 0, 40, 1000);
    }

    private static void caughtByCode() {
        for (int b = 0; b <= 9; b++) {
            x = new ScoreHandles();
            make(9, 13, b, 0, 0, 0);
            make(0, 13, 0, 0, -1, 1);
            make(11, 1, 0, 4, 0, 2);
            make(19, 0, 20 + b, 2, 0, 3);
            make(19, 0, 20 + (b + 1) % 10, 2, 0, 4);
            make(19, 0, -1, 2, 0, 5);
            gives(3, -1, 4);
            fails(4, 20 + b, 0, 2, 1);
            gives(5, -1, 4);
        }
        for (int code = 1; code <= 6; code++) {
            x = new ScoreHandles();
            x.row(4, 1);
            make(2, 4, 0, 0, 0, 0);
            make(7, 4, 0, 0, 0, 1);
            make(5, 4, 0, 0, 0, 2);
            make(4, 4, 0, 0, 0, 3);
            make(17, 2, 3, 0, 0, 4);
            make(10, 5, 0, 0, 0, 5);
            make(4, 5, 0, 0, 0, 6);
            make(17, 5, 6, 0, 0, 7);
            make(1, 4, 0, 0, 0, 8);
            int[] failing = {0, 0, 1, 4, 7, 4};
            long[][] numbers = {{-1, 0}, {0, 1}, {1, 0}, {-1, 0}, {0, 0}, {9, 0}};
            int[] places = {0, 0, 1, 2, 5, 2};
            int steps = code <= 3 ? 2 : 3;
            int other = code % 6 + 1;
            make(19, failing[code - 1], code, 8, 0, 9);
            make(19, failing[code - 1], other, 8, 0, 10);
            gives(9, code, steps + 1, numbers[code - 1]);
            CHECKS.due("failed last", x.last(2), places[code - 1]);
            fails(10, code, places[code - 1], steps, 1, numbers[code - 1]);
        }
    }

    private static void atLast() {
        x = new ScoreHandles();
        make(7, 4, 0, 0, 0, 0);
        make(6, 4, 0, 0, 0, 1);
        make(12, 1, 0, 0, 0, 2);
        make(11, 1, 0, 4, 0, 3);
        make(20, 0, 3, 0, 0, 4);
        // g sums what h gave and the first parameter.
        gives(4, 24, 4, 20, 5);
        make(11, 1, 1, 4, 0, 5);
        make(20, 0, 5, 0, 0, 6);
        // g sums the number, 0, and the first parameter.
        gives(6, 20, 4, 20, 5);
        make(11, 3, 0, 4, 0, 7);
        make(20, 0, 7, 0, 0, 8);
        // g sums both parameters.
        gives(8, 25, 5, 20, 5);
        make(9, 4, 4, 0, 0, 9);
        make(11, 9, 0, 4, 0, 10);
        make(11, 10, 0, 4, 0, 11);
        make(20, 0, 11, 0, 0, 12);
        fails(12, 24, 9, 5, 1, 20, 5);
        fails(12, 24, 9, 5, 2, 20, 0);
    }

    /** What g was given is told by what it wrote. */
    private static void atLastOfFailures() {
        x = new ScoreHandles();
        x.row(4, 4);
        make(3, 4, 0, 0, 0, 0);
        make(14, 0, 0, 0, 0, 1);
        make(7, 4, 0, 0, 0, 2);
        // WRITE of the first row at item k: n, k > what it was; g: n, r, k > int.
        make(12, 1, 0, 0, 0, 3);
        make(11, 3, 1, 4, 0, 4);
        make(12, 2, 0, 0, 0, 5);
        make(20, 5, 4, 0, 0, 6);
        // h is the second by the first; g writes the number at the item of the first.
        x.put(0, 0, 50);
        x.put(0, 2, 60);
        gives(6, 60, 7, 2, 8);
        CHECKS.due("g was given 0", x.item(0, 2), 0);
        fails(6, 3, 2, 7, 1, 0, 8);
        CHECKS.due("g was given the number", x.item(0, 0), 3);
        // g fails itself: that one goes on.
        fails(6, 2, 0, 7, 1, 5, 8);
        make(11, 1, 0, 4, 0, 7);
        make(12, 7, 1, 0, 0, 8);
        make(20, 5, 8, 0, 0, 9);
        // g writes what h gave at the item of the first.
        gives(9, 0, 7, 1, 8);
        CHECKS.due("g was given what h gave", x.item(0, 1), 8);
        fails(9, 3, 2, 7, 1, 0, 8);
        CHECKS.due("g was given 0 for it", x.item(0, 0), 0);
        // Of rows it is given none: SIZE fails by that, which is not so of row 0.
        make(9, 12, 1, 0, 0, 10);
        make(4, 4, 0, 0, 0, 11);
        make(5, 4, 0, 0, 0, 12);
        make(17, 11, 12, 0, 0, 13);
        make(11, 13, 0, 4, 0, 14);
        make(20, 10, 14, 0, 0, 15);
        fails(15, 1, 11, 5, 2);
        CHECKS.due("nothing new", x.count(0), 1);
        make(1, 12, 0, 0, 0, 16);
        make(11, 16, 0, 4, 0, 17);
        make(20, 10, 17, 0, 0, 18);
        fails(18, 21, 10, 4, 1);
        // What fails and is caught within g is the last that failed, but not what goes on.
        make(0, 12, 0, 0, -1, 19);
        make(11, 19, 0, 4, 0, 20);
        make(19, 14, 1, 20, 0, 21);
        make(20, 10, 21, 0, 0, 22);
        fails(22, 21, 11, 8, 2);
    }

    private static void looped() {
        x = new ScoreHandles();
        make(6, 4, 0, 0, 0, 0);
        make(21, 0, 0, 0, 0, 1);
        gives(1, 45, 11, 10, 0);
        gives(1, 7, 1, 0, 7);
        gives(1, 7, 1, -1, 7);
        gives(1, 7, 1, Integer.MIN_VALUE, 7);
        gives(1, 7, 2, 1, 7);
        make(8, 4, 0, 0, 0, 2);
        // k: long, int, and two others: the long sums itself and the last, as often as it runs.
        make(6, 5, 0, 0, 0, 3);
        make(11, 3, 1, 4, 0, 4);
        make(11, 4, 2, 0, 0, 5);
        make(21, 5, 0, 0, 0, 6);
        gives(6, 5 - 3 * 7, 10, 3, 5, 1, -7);
        make(7, 4, 0, 0, 0, 7);
        make(21, 7, 0, 0, 0, 8);
        fails(8, 3, 7, 2, 1, 5, 100);
        gives(8, 100, 1, 0, 100);
        make(12, 7, 0, 0, 0, 9);
        make(21, 9, 0, 0, 0, 10);
        // 0 / 100, 1 / 0: the second time fails.
        fails(10, 3, 7, 5, 1, 9, 100);
        gives(10, 0, 3, 1, 100);
        // What is written before it fails stays.
        x.row(4, 3);
        make(3, 4, 0, 0, 0, 11);
        make(14, 11, 0, 0, 0, 12);
        make(12, 12, 0, 0, 0, 13);
        make(21, 13, 0, 0, 0, 14);
        fails(14, 2, 11, 13, 1, 4, 70);
        CHECKS.due("item 0", x.item(0, 0), 70);
        CHECKS.due("item 1", x.item(0, 1), 0);
    }

    private static void widened() {
        x = new ScoreHandles();
        make(7, 4, 0, 0, 0, 0);
        type(7, 3, 1);
        make(22, 0, 0, 0, 0, 1);
        gives(1, Double.doubleToLongBits(32767), 2, 65535, 0xfe02);
        gives(1, Double.doubleToLongBits(-65535), 2, 65535, 0xff);
        fails(1, 3, 0, 2, 1, 65535, 0x100);
        type(7, 3, 1);
        given(8, 2);
        CHECKS.due("run as it goes takes no step of its own", x.run(0, false), 1);
        CHECKS.due("value", x.value(), Double.doubleToLongBits(4));
        CHECKS.due("steps", x.last(0), 1);
        make(6, 6, 0, 0, 0, 2);
        type(7, 5, 4);
        make(22, 2, 0, 0, 0, 3);
        float sum = (float) Long.MAX_VALUE + (float) 16777217;
        gives(3, Double.doubleToLongBits(sum), 2, Long.MAX_VALUE, 16777217);
        gives(3, Double.doubleToLongBits(16777216f + 16777216f), 2, 16777217, 16777217);
        x.row(3, 5);
        make(10, 3, 0, 0, 0, 4);
        type(16, 11);
        make(22, 4, 0, 0, 0, 5);
        gives(5, 0, 2, 0);
        gives(5, -1, 2, -1);
        make(22, 5, 0, 0, 0, 6);
        gives(6, 0, 3, 0);
        type(0, 5, 3);
        make(8, 7, 0, 0, 0, 7);
        make(22, 7, 0, 0, 0, 8);
        gives(8, 1, 2, 65536, 65535);
        gives(8, 0, 2, 65535, 65535);
    }

    private static void spentBySteps() {
        x = new ScoreHandles();
        make(6, 4, 0, 0, 0, 0);
        make(21, 0, 0, 0, 0, 1);
        make(1, 4, 0, 0, 0, 2);
        make(19, 1, -1, 2, 0, 3);
        x.row(4, 1);
        make(3, 4, 0, 0, 0, 4);
        make(14, 4, 0, 0, 0, 5);
        make(14, 5, 0, 0, 0, 6);
        make(11, 6, 0, 4, 0, 7);
        make(20, 1, 7, 0, 0, 8);
        gives(1, 1999 * 999, 2000, 1999, 0);
        fails(1, 7, 0, 2000, 0, 2000, 0);
        fails(1, 7, 0, 2000, 0, Integer.MAX_VALUE, 0);
        gives(3, 1997 * 999, 2000, 1998, 0);
        fails(3, 7, 0, 2000, 0, 1999, 0);
        x.put(0, 0, 5);
        fails(8, 7, 0, 2000, 0, 1999, 0);
        CHECKS.due("no g is run", x.item(0, 0), 5);
        fails(8, 7, 7, 2000, 0, 1998, 0);
        fails(8, 7, 6, 2000, 0, 1997, 0);
        fails(8, 7, 5, 2000, 0, 1996, 0);
        fails(8, 7, 4, 2000, 0, 1995, 0);
        CHECKS.due("no g has run to its end", x.item(0, 0), 5);
        gives(8, 5, 2000, 1994, 0);
        CHECKS.due("g has run", x.item(0, 0), 1993 * 997);
    }

    private static void spentByFailures() {
        x = new ScoreHandles();
        make(9, 4, 3, 0, 0, 0);
        make(11, 0, 0, 4, 0, 1);
        make(11, 1, 0, 4, 0, 2);
        make(6, 4, 0, 0, 0, 3);
        make(19, 2, 23, 3, 0, 4);
        make(21, 4, 0, 0, 0, 5);
        // Each time adds the number, 23, to what was there.
        gives(5, 24 * 23, 1 + 24 * 5, 24, 0);
        CHECKS.due("failures", x.last(1), 24);
        CHECKS.due("failed last", x.last(2), 0);
        fails(5, 7, 0, 1 + 24 * 5 + 4, 24, 25, 0);
        fails(5, 7, 0, 1 + 24 * 5 + 4, 24, 400, 0);
        make(19, 5, -1, 3, 0, 6);
        gives(6, 24 * 23, 2 + 24 * 5, 24, 0);
        fails(6, 7, 0, 2 + 24 * 5 + 4, 24, 25, 0);
        x.row(4, 1);
        make(3, 4, 0, 0, 0, 7);
        make(14, 7, 0, 0, 0, 8);
        make(14, 8, 0, 0, 0, 9);
        make(11, 9, 0, 4, 0, 10);
        make(20, 5, 10, 0, 0, 11);
        x.put(0, 0, 5);
        fails(11, 7, 0, 2 + 24 * 5 + 4, 24, 25, 0);
        CHECKS.due("no g is run", x.item(0, 0), 5);
        // A failure that goes on through LAST is counted once, where it comes from.
        make(20, 2, 3, 0, 0, 12);
        make(19, 12, 23, 3, 0, 13);
        make(21, 13, 0, 0, 0, 14);
        gives(14, 24 * 23, 1 + 24 * 7, 24, 0);
        CHECKS.due("failures", x.last(1), 24);
        fails(14, 7, 0, 1 + 24 * 7 + 5, 24, 25, 0);
        // A failure of the machine's kind is counted just so.
        make(7, 4, 0, 0, 0, 15);
        make(14, 15, 0, 0, 1, 16);
        make(11, 16, 0, 4, 0, 17);
        make(12, 17, 0, 0, 0, 18);
        make(0, 4, 0, 0, 0, 19);
        make(11, 19, 0, 4, 0, 20);
        make(19, 18, 3, 20, 0, 21);
        make(21, 21, 0, 0, 0, 22);
        gives(22, 0, 1 + 24 * 7, 24, 0);
        fails(22, 7, 15, 1 + 24 * 7 + 5, 24, 25, 0);
    }

    /** 32 handles, each of the one before: as deep as any can be. */
    private static void deepest() {
        x = new ScoreHandles();
        make(1, 4, 0, 0, 0, 0);
        type(4, 4);
        for (int i = 1; i < 32; i++) {
            make(22, i - 1, 0, 0, 0, i);
        }
        gives(31, 77, 32, 77);
        x = new ScoreHandles();
        make(6, 4, 0, 0, 0, 0);
        for (int i = 1; i < 32; i++) {
            make(12, i - 1, 0, 0, 0, i);
        }
        gives(31, 9, 32, 4, 5);
        x = new ScoreHandles();
        make(1, 4, 0, 0, 0, 0);
        for (int i = 1; i < 32; i++) {
            make(17, i - 1, i - 1, 0, 0, i);
        }
        fails(31, 7, 0, 2000, 0, 5);
        gives(9, 5, 1023, 5);
    }

    private static void valueAndLast() {
        x = new ScoreHandles();
        make(7, 4, 0, 0, 0, 0);
        type(5, 4, 4);
        given(7, 2);
        CHECKS.due("run", x.run(0, false), 1);
        CHECKS.due("value", x.value(), 3);
        CHECKS.due("last(2)", x.last(2), -1);
        CHECKS.due("wrong run", x.run(0, true), -4);
        CHECKS.due("bad run", x.run(1, true), -1);
        CHECKS.due("last(0) stays", x.last(0), 1);
        given(7, 0);
        CHECKS.due("failing run", x.run(0, false), -13);
        CHECKS.due("value stays", x.value(), 3);
        CHECKS.due("last(1)", x.last(1), 1);
        CHECKS.due("last(2)", x.last(2), 0);
        CHECKS.due("wrong run", x.run(0, true), -4);
        CHECKS.due("last(1) stays", x.last(1), 1);
        CHECKS.due("last(2) stays", x.last(2), 0);
        given(7, 7);
        CHECKS.due("run", x.run(0, false), 1);
        CHECKS.due("last(1) of the latest", x.last(1), 0);
        CHECKS.due("last(2) of the latest", x.last(2), -1);
        CHECKS.due("value of the latest", x.value(), 1);
        for (int what : new int[] {-1, 3, Integer.MIN_VALUE, Integer.MAX_VALUE}) {
            CHECKS.due("last(" + what + ")", x.last(what), -1);
        }
    }

    private static void counts() {
        x = new ScoreHandles();
        x.row(4, 1);
        x.row(9, 1);
        make(9, 4, 0, 0, 0, 0);
        make(0, 4, 0, 0, 3, 1);
        make(0, 4, 0, 0, 3, 1);
        make(0, 17, 0, 0, 3, -1);
        CHECKS.due("run fails", x.run(0, true), -30);
        CHECKS.due("run", x.run(1, true), 1);
        CHECKS.due("run bad", x.run(2, true), -1);
        type(4, 4);
        CHECKS.due("run wrong", x.run(1, true), -4);
        CHECKS.due("run wrong", x.run(1, false), -4);
        CHECKS.due("count(0)", x.count(0), 1);
        CHECKS.due("count(1)", x.count(1), 2);
        CHECKS.due("count(2)", x.count(2), 2);
        make(5, 4, 0, 0, 0, 2);
        gives(2, 1, 1, 0);
        CHECKS.due("count(0)", x.count(0), 2);
        CHECKS.due("count(1)", x.count(1), 3);
        CHECKS.due("count(2)", x.count(2), 3);
        for (int what : new int[] {-1, 3, Integer.MIN_VALUE, Integer.MAX_VALUE}) {
            CHECKS.due("count(" + what + ")", x.count(what), -1);
        }
    }
}
