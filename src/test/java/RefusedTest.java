import java.util.ArrayList;
import java.util.Arrays;
import java.util.List;
import java.util.function.Consumer;
import java.util.function.ToLongFunction;

/**
 * "They change nothing, but as told": two objects live through the same calls, one of them through
 * one more, that is refused; whatever is asked of both behind it, both answer the same.
 */
public final class RefusedTest {
    private static final Checks CHECKS = new Checks();
    private static final int INT = Bench.INT;
    private static final int LONG = Bench.LONG;
    private static final int[] NONE = {-1, Integer.MIN_VALUE, Integer.MAX_VALUE};

    /** A call, and what is due of it. */
    private record Call(String name, ToLongFunction<ScoreHandles> go, long due) { }

    public static void main(String[] args) {
        ofNew();
        ofBusy();
        ofRuns();
        ofFull();
        failingRuns();
        lookingOn();
        oneThatIsThere();
        CHECKS.end("RefusedTest");
    }

    private static void holds(Consumer<ScoreHandles> before, List<Call> calls) {
        for (Call call : calls) {
            for (int what = 0; what < 3; what++) {
                ScoreHandles one = new ScoreHandles();
                ScoreHandles other = new ScoreHandles();
                before.accept(one);
                before.accept(other);
                CHECKS.due(call.name, call.go.applyAsLong(one), call.due);
                long[] got = told(one, what);
                long[] want = told(other, what);
                int first = Arrays.mismatch(got, want);
                CHECKS.due("first of " + want.length + " answers " + what + " that " + call.name
                    + " changed", first, -1);
            }
        }
    }

    /** What an object answers: of its rows and runs, of its handles, of what it does next. */
    private static long[] told(ScoreHandles x, int what) {
        List<Long> all = new ArrayList<>();
        all.add(x.value());
        for (int i = 0; i < 3; i++) {
            all.add((long) x.count(i));
            all.add((long) x.last(i));
        }
        if (what == 0) {
            rowsOf(x, all);
        } else if (what == 1) {
            handlesOf(x, all);
        } else {
            nextOf(x, all);
        }
        return all.stream().mapToLong(Long::longValue).toArray();
    }

    private static void rowsOf(ScoreHandles x, List<Long> all) {
        for (int row = 0; row < Math.min(17, x.count(0) + 1); row++) {
            all.add((long) x.size(row));
            for (int i = 0; i < 8; i++) {
                all.add(x.item(row, i));
            }
        }
    }

    private static void handlesOf(ScoreHandles x, List<Long> all) {
        for (int handle = 0; handle < Math.min(33, x.count(1) + 1); handle++) {
            all.add((long) x.fits(handle));
            for (int what = 0; what < 7; what++) {
                all.add((long) x.told(handle, what));
            }
        }
    }

    /** Runs of the type at hand by the numbers given, then what is made next. */
    private static void nextOf(ScoreHandles x, List<Long> all) {
        for (int handle = 0; handle < x.count(1); handle++) {
            all.add((long) x.run(handle, true));
            all.add(x.value());
            for (int i = 0; i < 3; i++) {
                all.add((long) x.last(i));
            }
        }
        all.add((long) x.count(2));
        all.add((long) x.row(5, 3));
        all.add((long) x.make(0, INT, 0, 0, 123456));
        all.add((long) x.make(22, 0, 0, 0, 0));
        all.add((long) x.run(x.count(1) - 1, true));
        all.add(x.value());
    }

    private static Call call(String name, ToLongFunction<ScoreHandles> go, long due) {
        return new Call(name, go, due);
    }

    private static Call make(long due, int sort, int a, int b, int c, long v) {
        return call("make(" + sort + ", " + a + ", " + b + ", " + c + ", " + v + ")",
            x -> x.make(sort, a, b, c, v), due);
    }

    private static Call type(int result, int n, int k0, int k1, int k2, int k3) {
        return call("type(" + result + ", " + n + ", " + k0 + ", " + k1 + ", " + k2 + ", " + k3
            + ")", x -> x.type(result, n, k0, k1, k2, k3), -1);
    }

    private static Call run(long due, int handle, boolean exact) {
        return call("run(" + handle + ", " + exact + ")", x -> x.run(handle, exact), due);
    }

    /** Calls that are BAD of any object of three rows and fewer than 31 handles, or of none. */
    private static List<Call> badOfAny() {
        List<Call> all = new ArrayList<>();
        for (int none : NONE) {
            all.add(call("row(" + none + ", 1)", x -> x.row(none, 1), -1));
            all.add(call("row(4, " + none + ")", x -> x.row(4, none), -1));
            all.add(call("put(" + none + ", 0, 1)", x -> x.put(none, 0, 1), -1));
            all.add(call("put(0, " + none + ", 1)", x -> x.put(0, none, 1), -1));
            all.add(call("item(" + none + ", 0)", x -> x.item(none, 0), 0));
            all.add(call("item(0, " + none + ")", x -> x.item(0, none), 0));
            all.add(call("size(" + none + ")", x -> x.size(none), -1));
            all.add(type(none, 0, 0, 0, 0, 0));
            all.add(type(5, none, 5, 5, 5, 5));
            all.add(type(5, 1, none, 5, 5, 5));
            all.add(type(5, 2, 5, none, 5, 5));
            all.add(type(5, 3, 5, 5, none, 5));
            all.add(type(5, 4, 5, 5, 5, none));
            all.add(call("give(" + none + ", 77)", x -> x.give(none, 77), -1));
            all.add(call("told(" + none + ", 0)", x -> x.told(none, 0), -1));
            all.add(call("told(0, " + none + ")", x -> x.told(0, none), -1));
            all.add(call("fits(" + none + ")", x -> x.fits(none), -1));
            all.add(call("last(" + none + ")", x -> x.last(none), -1));
            all.add(call("count(" + none + ")", x -> x.count(none), -1));
            all.add(run(-1, none, true));
            all.add(run(-1, none, false));
            for (int sort = 0; sort <= 22; sort++) {
                all.add(make(-1, sort, none, 0, 0, 0));
            }
            all.add(make(-1, none, 4, 0, 0, 0));
        }
        all.add(call("row(8, 1)", x -> x.row(8, 1), -1));
        all.add(call("row(4, 9)", x -> x.row(4, 9), -1));
        all.add(type(17, 0, 0, 0, 0, 0));
        all.add(type(5, 5, 5, 5, 5, 5));
        all.add(type(5, 4, 5, 5, 5, 17));
        all.add(call("give(4, 77)", x -> x.give(4, 77), -1));
        all.add(call("told(0, 7)", x -> x.told(0, 7), -1));
        all.add(call("last(3)", x -> x.last(3), -1));
        all.add(call("count(3)", x -> x.count(3), -1));
        all.add(make(-1, 23, 4, 0, 0, 0));
        all.add(make(-1, 0, 17, 0, 0, 0));
        all.add(make(-1, 6, 3, 0, 0, 0));
        all.add(make(-1, 6, 8, 0, 0, 0));
        all.add(make(-1, 9, 4, 10, 0, 0));
        return all;
    }

    private static void ofNew() {
        holds(x -> { }, badOfAny());
        holds(x -> { }, List.of(call("put(0, 0, 1)", x -> x.put(0, 0, 1), -1),
            run(-1, 0, true), run(-1, 0, false), make(-1, 11, 0, 0, 4, 0),
            make(-1, 0, 12, 0, 0, 0)));
    }

    /** Three rows; handles that tell each of four numbers given; the type at hand is of these. */
    private static void busy(ScoreHandles x) {
        x.row(INT, 3);
        x.row(LONG, 0);
        x.row(7, 8);
        x.put(0, 0, 11);
        x.put(0, 2, 12);
        x.put(2, 7, 13);
        x.make(1, LONG, 0, 0, 0);
        int[][] drops = {{0, 0}, {1, 0}, {2, 0}, {2, 3}, {1, 2}, {5, 3}, {0, 1}, {7, 2}, {8, 3}};
        for (int[] drop : drops) {
            x.make(11, drop[0], drop[1], LONG, 0);
        }
        x.make(0, INT, 0, 0, 5);
        x.make(9, INT, 6, 0, 0);
        x.type(INT, 0, 0, 0, 0, 0);
        x.run(10, true);
        x.run(11, true);
        x.type(LONG, 4, LONG, LONG, LONG, LONG);
        for (int k = 0; k < 4; k++) {
            x.give(k, 1000 + k);
        }
    }

    private static void ofBusy() {
        holds(RefusedTest::busy, badOfAny());
        List<Call> calls = new ArrayList<>();
        calls.add(call("put(0, 3, 1)", x -> x.put(0, 3, 1), -1));
        calls.add(call("put(1, 0, 1)", x -> x.put(1, 0, 1), -1));
        calls.add(call("put(3, 0, 1)", x -> x.put(3, 0, 1), -1));
        calls.add(call("item(0, 3)", x -> x.item(0, 3), 0));
        calls.add(call("size(3)", x -> x.size(3), -1));
        calls.add(call("told(12, 0)", x -> x.told(12, 0), -1));
        calls.add(call("told(10, 3)", x -> x.told(10, 3), -1));
        calls.add(call("fits(12)", x -> x.fits(12), -1));
        for (int sort = 11; sort <= 22; sort++) {
            calls.add(make(-1, sort, 12, 0, 0, 0));
        }
        for (int sort : new int[] {16, 17, 18, 20}) {
            calls.add(make(-1, sort, 0, 12, 0, 0));
        }
        for (int sort : new int[] {15, 18, 19}) {
            calls.add(make(-1, sort, 0, sort == 19 ? -1 : 0, 12, 0));
        }
        calls.add(make(-1, 0, 12, 0, 0, 1));
        calls.add(make(-1, 0, 16, 0, 0, 3));
        calls.add(make(-1, 0, 16, 0, 0, -2));
        calls.add(make(-1, 11, 0, 2, LONG, 0));
        calls.add(make(-1, 11, 0, 0, 17, 0));
        calls.add(make(-1, 12, 0, 0, 0, 0));
        calls.add(make(-1, 15, 0, 1, 0, 0));
        calls.add(make(-1, 19, 0, 7, 0, 0));
        calls.add(make(-1, 19, 0, 0, 0, 0));
        calls.add(make(-1, 19, 0, 30, 0, 0));
        calls.add(make(-3, 11, 3, 0, LONG, 0));
        calls.add(make(-3, 13, 0, 0, 0, 0));
        calls.add(make(-3, 14, 10, 0, 0, 5));
        calls.add(make(-3, 15, 0, 0, 10, 0));
        calls.add(make(-3, 16, 10, 0, 0, 0));
        calls.add(make(-3, 17, 10, 0, 0, 0));
        calls.add(make(-3, 18, 0, 0, 0, 0));
        calls.add(make(-3, 19, 0, -1, 0, 0));
        calls.add(make(-3, 20, 0, 0, 0, 0));
        calls.add(make(-3, 21, 0, 0, 0, 0));
        calls.add(make(-3, 22, 0, 0, 0, 0));
        calls.add(run(-1, 12, true));
        calls.add(run(-1, 12, false));
        calls.add(run(-4, 0, true));
        calls.add(run(-4, 0, false));
        calls.add(run(-4, 10, true));
        calls.add(run(-4, 11, false));
        holds(RefusedTest::busy, calls);
    }

    /** Refused for what THE TYPE AT HAND is, or for a number given for a row. */
    private static void ofRuns() {
        holds(x -> {
            busy(x);
            x.type(7, 1, 1, 0, 0, 0);
        }, List.of(run(-4, 0, true), run(-4, 10, false), run(-1, 12, false)));
        for (int kind : new int[] {12, 13, 16}) {
            for (long row : new long[] {-2, 3, kind == 12 ? 1 : 4, kind == 13 ? 0 : 4}) {
                holds(x -> {
                    busy(x);
                    x.make(1, 16, 0, 0, 0);
                    x.make(11, 12, 0, LONG, 0);
                    x.type(16, 2, LONG, kind, 0, 0);
                    x.give(1, row);
                }, List.of(run(-1, 13, false), run(kind == 16 ? -1 : -4, 13, true),
                    run(-4, 12, false)));
            }
        }
    }

    private static void full(ScoreHandles x) {
        busy(x);
        for (int row = 3; row < 16; row++) {
            x.row(row % 8, row % 9);
        }
        for (int handle = 12; handle < 32; handle++) {
            x.make(0, INT, 0, 0, handle);
        }
    }

    private static void ofFull() {
        List<Call> calls = new ArrayList<>();
        for (int lane = 0; lane <= 7; lane += 7) {
            for (int n = 0; n <= 8; n += 8) {
                int lanes = lane;
                int many = n;
                calls.add(call("row(" + lane + ", " + n + ")", x -> x.row(lanes, many), -2));
            }
        }
        calls.add(call("row(8, 0)", x -> x.row(8, 0), -1));
        calls.add(call("row(0, 9)", x -> x.row(0, 9), -1));
        calls.add(call("size(16)", x -> x.size(16), -1));
        calls.add(make(-2, 0, INT, 0, 0, 32));
        calls.add(make(-2, 1, INT, 0, 0, 0));
        calls.add(make(-2, 6, INT, 0, 0, 0));
        calls.add(make(-2, 11, 31, 0, 4, 0));
        calls.add(make(-2, 14, 0, 0, 0, 7));
        calls.add(make(-2, 17, 0, 0, 0, 0));
        calls.add(make(-2, 22, 3, 0, 0, 0));
        calls.add(make(-3, 22, 0, 0, 0, 0));
        calls.add(make(-3, 14, 31, 0, 0, 7));
        calls.add(make(-1, 11, 32, 0, 4, 0));
        calls.add(make(-1, 11, 31, 1, 4, 0));
        calls.add(run(-1, 32, true));
        calls.add(run(-4, 31, true));
        holds(RefusedTest::full, calls);
    }

    /** What fails changes what its run tells of it, what was written, and nothing more. */
    private static void failingRuns() {
        Bench b = new Bench(CHECKS, "-10 less a FAILURE: They change nothing, but as told");
        int row = b.row(INT, 6, 7);
        int write = b.make(Bench.WRITE, INT);
        int read = b.make(Bench.READ, INT);
        b.gives(read, 7, row, 1);
        b.type(INT, Bench.INTS, INT, INT);
        b.given(row, 1, 8);
        b.runs(write, true, 1);
        b.given(row, 2, 9);
        b.runs(write, true, -12);
        b.items(row, 6, 8);
        b.due("value()", b.x.value(), 7);
        b.due("fits", b.x.fits(write), 2);
        b.due("count(0)", b.x.count(0), 1);
        b.due("count(1)", b.x.count(1), 2);
        b.due("count(2)", b.x.count(2), 3);
        b.due("last(2)", b.x.last(2), write);
        // The numbers given are there still.
        b.due("give", b.x.give(1, 0), 1);
        b.runs(write, true, 1);
        b.due("value()", b.x.value(), 6);
        b.items(row, 9, 8);
        int made = b.make(Bench.NEW, INT);
        b.fails(made, 4, made, -1);
        b.fails(made, 6, made, 9);
        b.due("count(0)", b.x.count(0), 1);
        b.gives(made, 1, 2);
    }

    /** Calls that only ask. */
    private static void lookingOn() {
        holds(RefusedTest::busy, List.of(call("item(0, 2)", x -> x.item(0, 2), 12),
            call("size(2)", x -> x.size(2), 8), call("told(3, 1)", x -> x.told(3, 1), 4),
            call("fits(3)", x -> x.fits(3), 2), call("fits(0)", x -> x.fits(0), 0),
            call("value()", ScoreHandles::value, 5), call("last(1)", x -> x.last(1), 1),
            call("count(1)", x -> x.count(1), 12)));
    }

    /** What is made just as one that is there changes nothing either. */
    private static void oneThatIsThere() {
        List<Call> calls = List.of(make(0, 1, LONG, 0, 0, 0), make(0, 1, LONG, 9, 9, 9),
            make(3, 11, 2, 0, LONG, 0), make(10, 0, INT, 0, 0, 5),
            make(10, 0, INT, 0, 0, 5 + (1L << 32)), make(11, 9, INT, 6, 0, 0));
        holds(RefusedTest::busy, calls);
        holds(RefusedTest::full, calls);
    }
}
