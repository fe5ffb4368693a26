/** Promise 7: what make takes, of what type it is, what is kept once, and in what order it says no. */
public final class MakeTest {
    private static final Checks CHECKS = new Checks();

    public static void main(String[] args) {
        alone();
        aloneBad();
        constantsOfRows();
        madeOfOne();
        bind();
        madeOfSome();
        misfits();
        misfitsOfFailing();
        keptOnce();
        keptOnceByBits();
        full();
        CHECKS.end("MakeTest");
    }

    private static void make(ScoreHandles x, int sort, int a, int b, int c, long v, int want) {
        CHECKS.due("make(" + sort + ", " + a + ", " + b + ", " + c + ", " + v + ")",
            x.make(sort, a, b, c, v), want);
    }

    /** What the latest handle is told to be: its sort, its result, its parameters. */
    private static void is(ScoreHandles x, int sort, int result, int... parameters) {
        int handle = x.count(1) - 1;
        CHECKS.due("sort of " + handle, x.told(handle, 0), sort);
        CHECKS.due("parameters of " + handle, x.told(handle, 1), parameters.length);
        CHECKS.due("result of " + handle, x.told(handle, 2), result);
        for (int i = 0; i < 4; i++) {
            CHECKS.due("parameter " + i + " of " + handle, x.told(handle, 3 + i),
                i < parameters.length ? parameters[i] : -1);
        }
    }

    private static void alone() {
        for (int a = 0; a <= 16; a++) {
            ScoreHandles x = new ScoreHandles();
            make(x, 0, a, 0, 0, a >= 8 ? -1 : 1, 0);
            is(x, 0, a);
            make(x, 1, a, 0, 0, 0, 1);
            is(x, 1, a, a);
            make(x, 9, a, 9, 0, 0, 2);
            is(x, 9, a);
            if (a > 7) {
                continue;
            }
            make(x, 2, a, 0, 0, 0, 3);
            is(x, 2, a, 8 + a, 4);
            make(x, 3, a, 0, 0, 0, 4);
            is(x, 3, a, 8 + a, 4, a);
            make(x, 4, a, 0, 0, 0, 5);
            is(x, 4, 4, 8 + a);
            make(x, 5, a, 0, 0, 0, 6);
            is(x, 5, 8 + a, 4);
            make(x, 10, a, 0, 0, 0, 7);
            is(x, 10, 8 + a, 16);
            if (a < 4) {
                continue;
            }
            make(x, 6, a, 0, 0, 0, 8);
            is(x, 6, a, a, a);
            make(x, 7, a, 0, 0, 0, 9);
            is(x, 7, a, a, a);
            make(x, 8, a, 0, 0, 0, 10);
            is(x, 8, 0, a, a);
        }
    }

    private static void aloneBad() {
        ScoreHandles x = new ScoreHandles();
        for (int sort : new int[] {-1, 23, 24, 32, 64, Integer.MIN_VALUE, Integer.MAX_VALUE}) {
            make(x, sort, 4, 0, 0, 0, -1);
        }
        for (int a : new int[] {-1, 17, Integer.MIN_VALUE, Integer.MAX_VALUE}) {
            for (int sort = 0; sort <= 22; sort++) {
                make(x, sort, a, 0, 0, 0, -1);
            }
        }
        for (int sort : new int[] {2, 3, 4, 5, 10, 6, 7, 8}) {
            make(x, sort, 8, 0, 0, 0, -1);
            make(x, sort, 16, 0, 0, 0, -1);
        }
        for (int sort = 6; sort <= 8; sort++) {
            make(x, sort, 3, 0, 0, 0, -1);
            make(x, sort, 0, 0, 0, 0, -1);
        }
        for (int b : new int[] {-1, 10, 20, Integer.MIN_VALUE, Integer.MAX_VALUE}) {
            make(x, 9, 4, b, 0, 0, -1);
        }
        CHECKS.due("none is made", x.count(1), 0);
        make(x, 1, 4, 0, 0, 0, 0);
        for (int sort : new int[] {-1, -32, 23, 24, 43, 54, Integer.MIN_VALUE}) {
            make(x, sort, 0, 0, 0, 0, -1);
        }
    }

    private static void constantsOfRows() {
        ScoreHandles x = new ScoreHandles();
        make(x, 0, 12, 0, 0, 0, -1);
        make(x, 0, 16, 0, 0, 0, -1);
        x.row(4, 1);
        x.row(7, 1);
        make(x, 0, 12, 0, 0, 0, 0);
        make(x, 0, 12, 0, 0, 1, -1);
        make(x, 0, 15, 0, 0, 0, -1);
        make(x, 0, 15, 0, 0, 1, 1);
        make(x, 0, 16, 0, 0, 0, 2);
        make(x, 0, 16, 0, 0, 1, 3);
        make(x, 0, 16, 0, 0, 2, -1);
        make(x, 0, 16, 0, 0, -1, 4);
        make(x, 0, 16, 0, 0, -2, -1);
        make(x, 0, 16, 0, 0, 1L << 32, -1);
        make(x, 0, 12, 0, 0, (1L << 32) - 1, -1);
        make(x, 0, 12, 0, 0, -1, 5);
        make(x, 0, 12, 0, 0, Long.MIN_VALUE, -1);
        make(x, 0, 12, 0, 0, Long.MAX_VALUE, -1);
        make(x, 0, 4, 0, 0, Long.MAX_VALUE, 6);
    }

    private static void madeOfOne() {
        ScoreHandles x = new ScoreHandles();
        make(x, 3, 6, 0, 0, 0, 0);
        make(x, 11, 0, 0, 0, 0, 1);
        is(x, 11, 6, 0, 14, 4, 6);
        make(x, 11, 0, 1, 0, 0, 2);
        is(x, 11, 6, 14, 0, 4, 6);
        make(x, 11, 0, 3, 16, 0, 3);
        is(x, 11, 6, 14, 4, 6, 16);
        make(x, 11, 0, 4, 0, 0, -1);
        make(x, 11, 0, -1, 0, 0, -1);
        make(x, 11, 0, 0, 17, 0, -1);
        make(x, 11, 0, 0, -1, 0, -1);
        make(x, 11, 4, 0, 0, 0, -1);
        make(x, 12, 3, 0, 0, 0, 4);
        is(x, 12, 6, 4, 14, 6, 16);
        make(x, 12, 3, 2, 0, 0, 5);
        is(x, 12, 6, 14, 4, 16, 6);
        make(x, 12, 3, 3, 0, 0, -1);
        make(x, 12, 3, -1, 0, 0, -1);
        make(x, 12, 3, Integer.MAX_VALUE, 0, 0, -1);
        make(x, 12, 3, Integer.MIN_VALUE, 0, 0, -1);
        make(x, 6, 6, 0, 0, 0, 6);
        make(x, 13, 6, 0, 0, 0, 7);
        is(x, 13, 6, 6);
        make(x, 12, 7, 0, 0, 0, -1);
        make(x, 11, 6, 2, 3, 0, 8);
        make(x, 13, 8, 0, 0, 0, 9);
        is(x, 13, 6, 6, 3);
        make(x, 2, 4, 0, 0, 0, 10);
        make(x, 6, 4, 0, 0, 0, 11);
        make(x, 21, 11, 0, 0, 0, 12);
        is(x, 21, 4, 4, 4);
        make(x, 11, 11, 2, 9, 0, 13);
        make(x, 21, 13, 0, 0, 0, 14);
        is(x, 21, 4, 4, 4, 9);
        make(x, 1, 14, 0, 0, 0, 15);
        make(x, 11, 15, 1, 4, 0, 16);
        make(x, 21, 16, 0, 0, 0, 17);
        is(x, 21, 14, 4, 14);
        x.type(7, 2, 3, 2, 0, 0);
        make(x, 22, 11, 0, 0, 0, 18);
        is(x, 22, 7, 3, 2);
        CHECKS.due("count", x.count(1), 19);
    }

    private static void bind() {
        ScoreHandles x = new ScoreHandles();
        x.row(6, 2);
        x.row(4, 2);
        make(x, 3, 6, 0, 0, 0, 0);
        make(x, 14, 0, 0, 0, 1, -1);
        make(x, 14, 0, 0, 0, 2, -1);
        make(x, 14, 0, 0, 0, -2, -1);
        make(x, 14, 0, 0, 0, 1L << 32, -1);
        make(x, 14, 0, 0, 0, 0, 1);
        is(x, 14, 6, 4, 6);
        make(x, 14, 0, 0, 0, -1, 2);
        make(x, 14, 1, 0, 0, Long.MAX_VALUE, 3);
        is(x, 14, 6, 6);
        make(x, 14, 3, 0, 0, -1, 4);
        is(x, 14, 6);
        make(x, 14, 4, 0, 0, 0, -3);
        make(x, 10, 4, 0, 0, 0, 5);
        make(x, 14, 5, 0, 0, 0, 6);
        make(x, 14, 5, 0, 0, 1, 7);
        make(x, 14, 5, 0, 0, 2, -1);
        make(x, 14, 8, 0, 0, 0, -1);
    }

    private static void madeOfSome() {
        ScoreHandles x = new ScoreHandles();
        make(x, 2, 4, 0, 0, 0, 0);
        make(x, 4, 5, 0, 0, 0, 1);
        make(x, 15, 0, 1, 1, 0, 2);
        is(x, 15, 4, 12, 13);
        make(x, 15, 0, 2, 1, 0, -1);
        make(x, 15, 0, -1, 1, 0, -1);
        make(x, 15, 0, 0, 99, 0, -1);
        make(x, 15, 99, 0, 1, 0, -1);
        make(x, 15, 0, 0, 1, 0, -3);
        make(x, 6, 4, 0, 0, 0, 3);
        // The sum's first one is what is read; the sum goes on with an int of its own.
        make(x, 11, 3, 1, 12, 0, 4);
        make(x, 11, 4, 2, 4, 0, 5);
        make(x, 16, 5, 0, 0, 0, 6);
        is(x, 16, 4, 12, 4, 4);
        make(x, 16, 4, 0, 0, 0, 7);
        is(x, 16, 4, 12, 4);
        make(x, 16, 3, 0, 0, 0, -3);
        make(x, 16, 5, 99, 0, 0, -1);
        make(x, 5, 4, 0, 0, 0, 8);
        make(x, 17, 0, 8, 0, 0, 9);
        is(x, 17, 12, 12, 4);
        make(x, 17, 8, 0, 0, 0, -3);
        make(x, 17, 0, -1, 0, 0, -1);
        make(x, 8, 4, 0, 0, 0, 10);
        make(x, 7, 4, 0, 0, 0, 11);
        make(x, 18, 10, 3, 11, 0, 12);
        is(x, 18, 4, 4, 4);
        make(x, 18, 3, 3, 11, 0, -3);
        make(x, 18, 10, 3, 10, 0, -3);
        make(x, 18, 10, 10, 3, 0, -3);
        make(x, 18, 10, 3, 99, 0, -1);
        make(x, 18, 10, 99, 3, 0, -1);
        make(x, 18, 99, 3, 3, 0, -1);
        make(x, 18, 10, 1, 1, 0, -3);
        make(x, 0, 0, 0, 0, 1, 13);
        make(x, 18, 13, 8, 8, 0, 14);
        is(x, 18, 12, 4);
    }

    private static void misfits() {
        ScoreHandles x = new ScoreHandles();
        make(x, 0, 4, 0, 0, 1, 0);
        make(x, 11, 0, 0, 4, 0, 1);
        make(x, 11, 1, 0, 4, 0, 2);
        make(x, 11, 2, 0, 4, 0, 3);
        make(x, 11, 3, 0, 4, 0, 4);
        make(x, 11, 4, 0, 4, 0, -3);
        make(x, 11, 4, 4, 4, 0, -3);
        make(x, 11, 4, 5, 4, 0, -1);
        make(x, 11, 4, 0, 17, 0, -1);
        make(x, 13, 0, 0, 0, 0, -3);
        make(x, 13, 1, 0, 0, 0, -3);
        make(x, 14, 0, 0, 0, 0, -3);
        make(x, 16, 0, 0, 0, 0, -3);
        make(x, 16, 1, 1, 0, 0, -3);
        make(x, 16, 1, 0, 0, 0, 5);
        make(x, 21, 0, 0, 0, 0, -3);
        make(x, 21, 1, 0, 0, 0, -3);
        make(x, 11, 1, 0, 5, 0, 6);
        make(x, 13, 6, 0, 0, 0, -3);
        make(x, 21, 6, 0, 0, 0, -3);
        make(x, 12, 6, 0, 0, 0, 7);
        make(x, 21, 7, 0, 0, 0, -3);
        make(x, 17, 0, 0, 0, 0, -3);
        make(x, 17, 0, 2, 0, 0, -3);
        make(x, 15, 1, 0, 0, 0, -3);
        make(x, 15, 1, 0, 2, 0, -3);
        make(x, 15, 0, 0, 1, 0, -1);
        make(x, 22, 1, 0, 0, 0, -3);
        x.type(4, 1, 5, 0, 0, 0);
        make(x, 22, 1, 0, 0, 0, -3);
        x.type(3, 1, 4, 0, 0, 0);
        make(x, 22, 1, 0, 0, 0, -3);
        x.type(4, 1, 3, 0, 0, 0);
        make(x, 22, 1, 0, 0, 0, 8);
    }

    private static void misfitsOfFailing() {
        ScoreHandles x = new ScoreHandles();
        make(x, 7, 4, 0, 0, 0, 0);
        make(x, 1, 4, 0, 0, 0, 1);
        make(x, 6, 4, 0, 0, 0, 2);
        make(x, 11, 2, 2, 4, 0, 3);
        make(x, 11, 3, 3, 4, 0, 4);
        make(x, 8, 4, 0, 0, 0, 5);
        make(x, 0, 4, 0, 0, 0, 6);
        make(x, 1, 5, 0, 0, 0, 7);
        make(x, 11, 1, 1, 5, 0, 8);
        for (int code = -2; code <= 31; code++) {
            boolean isHeld = code == -1 || code >= 1 && code <= 6 || code >= 20 && code <= 29;
            CHECKS.due("code " + code, x.make(19, 0, code, 7, 0), isHeld ? -3 : -1);
        }
        make(x, 19, 0, Integer.MIN_VALUE, 1, 0, -1);
        make(x, 19, 0, Integer.MAX_VALUE, 1, 0, -1);
        make(x, 19, 0, -1, 4, 0, -3);
        make(x, 19, 0, -1, 5, 0, -3);
        make(x, 19, 0, -1, 6, 0, -3);
        make(x, 19, 0, -1, 8, 0, -3);
        make(x, 19, 0, -1, 99, 0, -1);
        make(x, 19, 99, -1, 1, 0, -1);
        make(x, 19, 0, -1, 1, 0, 9);
        is(x, 19, 4, 4, 4);
        make(x, 19, 0, -1, 2, 0, 10);
        make(x, 19, 0, -1, 3, 0, 11);
        make(x, 20, 0, 6, 0, 0, -3);
        make(x, 20, 0, 1, 0, 0, -3);
        make(x, 20, 0, 8, 0, 0, -3);
        make(x, 20, 0, 5, 0, 0, -3);
        make(x, 20, 0, 99, 0, 0, -1);
        make(x, 20, 0, 2, 0, 0, 12);
        is(x, 20, 4, 4, 4);
        make(x, 20, 0, 3, 0, 0, 13);
        make(x, 20, 0, 4, 0, 0, 14);
        make(x, 20, 1, 4, 0, 0, -3);
        make(x, 20, 1, 3, 0, 0, 15);
        is(x, 20, 4, 4);
    }

    /** The same numbers that its sort has; those that it has not are not looked at. */
    private static void keptOnce() {
        ScoreHandles x = new ScoreHandles();
        make(x, 2, 4, 0, 0, 0, 0);
        make(x, 2, 4, 9, -9, 99, 0);
        make(x, 2, 5, 0, 0, 0, 1);
        make(x, 3, 4, 0, 0, 0, 2);
        make(x, 0, 4, 0, 0, 5, 3);
        make(x, 0, 4, 7, 7, 5, 3);
        make(x, 0, 4, 7, 7, 6, 4);
        make(x, 0, 5, 0, 0, 5, 5);
        make(x, 9, 4, 1, 0, 0, 6);
        make(x, 9, 4, 1, 5, 5, 6);
        make(x, 9, 4, 2, 0, 0, 7);
        make(x, 1, 4, 0, 0, 0, 8);
        make(x, 1, 4, -1, 77, 1, 8);
        make(x, 14, 8, 0, 0, 5, 9);
        make(x, 14, 8, 1, 2, 5, 9);
        make(x, 14, 8, 1, 2, 6, 10);
        make(x, 11, 8, 0, 4, 0, 11);
        make(x, 11, 8, 0, 4, 9, 11);
        make(x, 11, 8, 1, 4, 0, 12);
        make(x, 11, 8, 1, 5, 0, 13);
        make(x, 21, 11, 0, 0, 0, 14);
        make(x, 21, 11, 5, 6, 7, 14);
        make(x, 21, 12, 5, 6, 7, 15);
        x.type(4, 1, 4, 0, 0, 0);
        make(x, 22, 8, 0, 0, 0, 16);
        make(x, 22, 8, 3, 4, 5, 16);
        x.type(5, 1, 4, 0, 0, 0);
        make(x, 22, 8, 0, 0, 0, 17);
        x.type(5, 1, 3, 0, 0, 0);
        make(x, 22, 8, 0, 0, 0, 18);
        x.type(5, 1, 4, 1, 2, 3);
        make(x, 22, 8, 0, 0, 0, 17);
        make(x, 2, 4, 0, 0, 0, 0);
        make(x, 15, 8, 0, 8, 0, 19);
        make(x, 15, 8, 0, 8, 3, 19);
        make(x, 17, 8, 8, 0, 0, 20);
        make(x, 17, 8, 8, 5, 5, 20);
        make(x, 19, 12, 1, 8, 0, 21);
        make(x, 19, 12, 2, 8, 0, 22);
        make(x, 19, 12, 1, 8, 4, 21);
        make(x, 20, 12, 11, 0, 0, 23);
        make(x, 20, 12, 11, 7, 7, 23);
        make(x, 20, 12, 12, 7, 7, 24);
        make(x, 16, 11, 8, 0, 0, 25);
        make(x, 16, 11, 8, 3, 3, 25);
        make(x, 12, 13, 0, 0, 0, 26);
        make(x, 12, 13, 0, 1, 1, 26);
        make(x, 13, 11, 0, 0, 0, 27);
        make(x, 13, 11, 1, 1, 1, 27);
        CHECKS.due("count", x.count(1), 28);
    }

    private static void keptOnceByBits() {
        ScoreHandles x = new ScoreHandles();
        make(x, 0, 1, 0, 0, 1, 0);
        make(x, 0, 1, 0, 0, 257, 0);
        make(x, 0, 1, 0, 0, 129, 1);
        make(x, 0, 1, 0, 0, -127, 1);
        make(x, 0, 0, 0, 0, 2, 2);
        make(x, 0, 0, 0, 0, 1, 2);
        make(x, 0, 0, 0, 0, 0, 3);
        make(x, 0, 3, 0, 0, -1, 4);
        make(x, 0, 3, 0, 0, 65535, 4);
        make(x, 0, 6, 0, 0, 0x7fc00000L, 5);
        make(x, 0, 6, 0, 0, 0xff800001L, 5);
        make(x, 0, 6, 0, 0, 0, 6);
        make(x, 0, 6, 0, 0, 0x80000000L, 7);
        make(x, 0, 7, 0, 0, 0x7ff8000000000000L, 8);
        make(x, 0, 7, 0, 0, -1, 8);
        make(x, 0, 7, 0, 0, Long.MIN_VALUE, 9);
        make(x, 0, 7, 0, 0, 0, 10);
        make(x, 0, 5, 0, 0, 1L << 32, 11);
        make(x, 0, 5, 0, 0, 0, 12);
        make(x, 0, 4, 0, 0, 1L << 32, 13);
        make(x, 0, 4, 0, 0, 0, 13);
        make(x, 1, 2, 0, 0, 0, 14);
        make(x, 14, 14, 0, 0, 65537, 15);
        make(x, 14, 14, 0, 0, 1, 15);
        make(x, 14, 14, 0, 0, 65535, 16);
        make(x, 14, 14, 0, 0, -1, 16);
        make(x, 1, 6, 0, 0, 0, 17);
        make(x, 14, 17, 0, 0, 0x7fffffffL, 18);
        make(x, 14, 17, 0, 0, 0xffc00000L, 18);
    }

    private static void full() {
        ScoreHandles x = new ScoreHandles();
        for (int i = 0; i < 32; i++) {
            make(x, 0, 4, 0, 0, i, i);
        }
        make(x, 0, 4, 0, 0, 32, -2);
        make(x, 0, 4, 0, 0, 31, 31);
        make(x, 0, 4, 0, 0, 0, 0);
        make(x, 11, 31, 0, 4, 0, -2);
        make(x, 11, 31, 1, 4, 0, -1);
        make(x, 14, 31, 0, 0, 0, -3);
        make(x, 11, 32, 0, 4, 0, -1);
        x.type(5, 0, 0, 0, 0, 0);
        make(x, 22, 31, 0, 0, 0, -2);
        x.type(5, 1, 4, 0, 0, 0);
        make(x, 22, 31, 0, 0, 0, -3);
        CHECKS.due("count", x.count(1), 32);
        CHECKS.due("told of the last", x.told(31, 2), 4);
        CHECKS.due("told behind it", x.told(32, 2), -1);
    }
}
