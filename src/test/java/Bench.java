import java.util.Arrays;

/** One object, and what is due of its calls; each check tells the sentence that it is about. */
final class Bench {
    static final int CONSTANT = 0, SELF = 1, READ = 2, WRITE = 3, SIZE = 4, NEW = 5, SUM = 6,
        QUOTIENT = 7, ABOVE = 8, FAIL = 9, CAST = 10, DROP = 11, SWAP = 12, TWICE = 13, BIND = 14,
        FILTER = 15, FOLD = 16, THEN = 17, GUARD = 18, CATCH = 19, LAST = 20, LOOP = 21, AS = 22;
    static final int TRUTH = 0, BYTE = 1, SHORT = 2, CHAR = 3, INT = 4, LONG = 5, FLOAT = 6,
        DOUBLE = 7, ROWS = 8, INTS = 12, LONGS = 13, ANY = 16;
    static final int BAD = -1, FULL = -2, MISFIT = -3, WRONG = -4;
    /** Numbers that are far off every bound. */
    static final int[] FAR = {Integer.MIN_VALUE, Integer.MIN_VALUE + 1, Integer.MAX_VALUE - 1,
        Integer.MAX_VALUE};

    final ScoreHandles x = new ScoreHandles();
    private final Checks checks;
    private final String sentence;

    Bench(Checks checks, String sentence) {
        this.checks = checks;
        this.sentence = sentence;
    }

    void due(String call, long got, long want) {
        checks.due("\"" + sentence + "\": " + call, got, want);
    }

    /** Makes one that is to be there: its number. */
    int make(int sort, int a, int b, int c, long v) {
        int many = x.count(1);
        int number = x.make(sort, a, b, c, v);
        String call = call(sort, a, b, c, v);
        due(call + " is a handle", number >= 0 && number <= many ? 1 : number, 1);
        due(call + " is of its sort", x.told(number, 0), sort);
        due(call + " then count(1)", x.count(1), number == many ? many + 1 : many);
        return number;
    }

    int make(int sort, int a, int b, int c) {
        return make(sort, a, b, c, 0);
    }

    int make(int sort, int a, int b) {
        return make(sort, a, b, 0, 0);
    }

    int make(int sort, int a) {
        return make(sort, a, 0, 0, 0);
    }

    int constant(int kind, long v) {
        return make(CONSTANT, kind, 0, 0, v);
    }

    int bind(int h, long v) {
        return make(BIND, h, 0, 0, v);
    }

    /** One of a type, that gives 0 or no row and looks at none of its parameters. */
    int shape(int result, int... kinds) {
        return dropping(constant(result, result >= ROWS ? -1 : 0), kinds);
    }

    /** As h, of no parameters, with parameters that are not used. */
    int dropping(int h, int... kinds) {
        int made = h;
        for (int i = kinds.length - 1; i >= 0; i--) {
            made = make(DROP, made, 0, kinds[i]);
        }
        return made;
    }

    private static String call(int sort, int a, int b, int c, long v) {
        return "make(" + sort + ", " + a + ", " + b + ", " + c + ", " + v + ")";
    }

    void answers(int answer, int sort, int a, int b, int c, long v) {
        due(call(sort, a, b, c, v), x.make(sort, a, b, c, v), answer);
    }

    void refused(int answer, int sort, int a, int b, int c, long v) {
        int many = x.count(1);
        due(call(sort, a, b, c, v), x.make(sort, a, b, c, v), answer);
        due("count(1) behind it", x.count(1), many);
    }

    void bad(int sort, int a, int b, int c, long v) {
        refused(BAD, sort, a, b, c, v);
    }

    void bad(int sort, int a, int b, int c) {
        refused(BAD, sort, a, b, c, 0);
    }

    void misfit(int sort, int a, int b, int c) {
        refused(MISFIT, sort, a, b, c, 0);
    }

    /** What a handle is told to be. */
    void is(int handle, int result, int... kinds) {
        due("told(" + handle + ", 1)", x.told(handle, 1), kinds.length);
        due("told(" + handle + ", 2)", x.told(handle, 2), result);
        for (int i = 0; i < 4; i++) {
            due("told(" + handle + ", " + (3 + i) + ")", x.told(handle, 3 + i),
                i < kinds.length ? kinds[i] : BAD);
        }
    }

    void type(int result, int... kinds) {
        int[] k = Arrays.copyOf(kinds, 4);
        due("type(" + result + ", " + kinds.length + ", " + Arrays.toString(kinds) + ")",
            x.type(result, kinds.length, k[0], k[1], k[2], k[3]), 1);
    }

    void typeOf(int handle) {
        int n = x.told(handle, 1);
        int[] kinds = new int[n];
        for (int i = 0; i < n; i++) {
            kinds[i] = x.told(handle, 3 + i);
        }
        type(x.told(handle, 2), kinds);
    }

    void given(long... numbers) {
        for (int k = 0; k < numbers.length; k++) {
            due("give(" + k + ")", x.give(k, numbers[k]), 1);
        }
    }

    void runs(int handle, boolean exact, long answer) {
        due("run(" + handle + ", " + exact + ")", x.run(handle, exact), answer);
    }

    /** By its own type, exactly: what value it gives. */
    void gives(int handle, long want, long... numbers) {
        typeOf(handle);
        given(numbers);
        String call = "run(" + handle + ", true) of " + Arrays.toString(numbers);
        due(call, x.run(handle, true), 1);
        due("value() of " + call, x.value(), want);
    }

    /** By its own type, exactly: by what number it fails, and where. */
    void fails(int handle, int code, int at, long... numbers) {
        typeOf(handle);
        given(numbers);
        long value = x.value();
        String call = "run(" + handle + ", true) of " + Arrays.toString(numbers);
        due(call, x.run(handle, true), -10 - code);
        due("last(2) of " + call, x.last(2), at);
        due("value() stays behind " + call, x.value(), value);
    }

    void took(int steps, int failures) {
        due("last(0)", x.last(0), steps);
        due("last(1)", x.last(1), failures);
    }

    /** A row with these items, by their bits. */
    int row(int lane, long... items) {
        int row = x.row(lane, items.length);
        due("row(" + lane + ", " + items.length + ") is one", row >= 0 ? 1 : row, 1);
        for (int i = 0; i < items.length; i++) {
            due("put(" + row + ", " + i + ")", x.put(row, i, items[i]), 1);
        }
        return row;
    }

    void items(int row, long... items) {
        due("size(" + row + ")", x.size(row), items.length);
        for (int i = 0; i < items.length; i++) {
            due("item(" + row + ", " + i + ")", x.item(row, i), items[i]);
        }
    }
}
