import java.util.ArrayList;
import java.util.Arrays;
import java.util.List;
import java.util.Objects;
import java.util.TreeMap;

/**
 * The document told a second time, by other means: values are Java's own objects, failures are
 * exceptions, handles are closures, floats are the machine's. ModelTest holds the class to it.
 */
final class Model {
    static final int BAD = -1, FULL = -2, MISFIT = -3, WRONG = -4;
    private static final String[] GOES_TO = {"", "24567", "4567", "4567", "567", "67", "7", ""};
    private static final String HELD = "-1 1 2 3 4 5 6 20 21 22 23 24 25 26 27 28 29";

    /** Parameters and a result. */
    record Shape(List<Integer> parameters, int result) {
        static Shape of(int result, Integer... parameters) {
            return new Shape(List.of(parameters), result);
        }
    }

    /** A row by its number; -1 none. */
    record Ref(long number) { }

    /** What tells one handle from another. */
    record Key(int sort, List<Integer> numbers, Object v, Shape shape) { }

    interface Body {
        Object go(List<Object> given) throws Failure;
    }

    static final class Failure extends Exception {
        private static final long serialVersionUID = 1;
        final int code;

        Failure(int code) {
            super(null, null, false, false);
            this.code = code;
        }
    }

    private static final class Row {
        int lane;
        Object[] items;
    }

    private static final class Program {
        Key key;
        Body body;
    }

    private final List<Row> rows = new ArrayList<>();
    private final List<Program> programs = new ArrayList<>();
    private final long[] given = new long[4];
    private Shape hand = Shape.of(4);
    private long result;
    private int runs;
    private int steps;
    private int failures;
    private int failedLast = -1;
    /** How often each thing came: so that a test can tell what it has not looked at. */
    final TreeMap<String, Integer> seen = new TreeMap<>();

    private void see(String what) {
        seen.merge(what, 1, Integer::sum);
    }

    // ---- kinds

    static Object from(int kind, long bits) {
        return switch (kind) {
            case 0 -> bits != 0;
            case 1 -> (byte) bits;
            case 2 -> (short) bits;
            case 3 -> (char) bits;
            case 4 -> (int) bits;
            case 5 -> bits;
            case 6 -> Float.intBitsToFloat((int) bits);
            case 7 -> Double.longBitsToDouble(bits);
            default -> new Ref(bits);
        };
    }

    static long bits(Object value) {
        if (value instanceof Boolean truth) {
            return truth ? 1 : 0;
        }
        if (value instanceof Character sign) {
            return sign;
        }
        if (value instanceof Float real) {
            return Float.floatToIntBits(real);
        }
        if (value instanceof Double real) {
            return Double.doubleToLongBits(real);
        }
        return value instanceof Ref ref ? ref.number : ((Number) value).longValue();
    }

    static boolean goes(int from, int to) {
        if (from == to) {
            return true;
        }
        return from >= 8 ? to == 16 : GOES_TO[from].indexOf('0' + to) >= 0;
    }

    static Object widen(Object value, int to) {
        if (value instanceof Ref || value instanceof Boolean) {
            return value;
        }
        Number number = value instanceof Character sign ? (Number) (int) sign : (Number) value;
        return switch (to) {
            case 1 -> number.byteValue();
            case 2 -> number.shortValue();
            case 3 -> value;
            case 4 -> number.intValue();
            case 5 -> number.longValue();
            case 6 -> number.floatValue();
            default -> number.doubleValue();
        };
    }

    private static Object none(int kind) {
        return kind >= 8 ? new Ref(-1) : from(kind, 0);
    }

    private static boolean goes(Shape from, Shape to) {
        if (from.parameters.size() != to.parameters.size() || !goes(to.result, from.result)) {
            return false;
        }
        for (int i = 0; i < from.parameters.size(); i++) {
            if (!goes(from.parameters.get(i), to.parameters.get(i))) {
                return false;
            }
        }
        return true;
    }

    // ---- rows

    int row(int lane, int n) {
        if (lane < 0 || lane > 7 || n > 8 || n < 0) {
            return BAD;
        }
        if (rows.size() == 16) {
            return FULL;
        }
        Row made = new Row();
        made.lane = lane;
        made.items = new Object[n];
        Arrays.fill(made.items, from(lane, 0));
        rows.add(made);
        return rows.size() - 1;
    }

    private boolean isItem(int row, int i) {
        return isRow(row) && i >= 0 && i < rows.get(row).items.length;
    }

    private boolean isRow(long row) {
        return row >= 0 && row < rows.size();
    }

    int put(int row, int i, long bits) {
        if (!isItem(row, i)) {
            return BAD;
        }
        rows.get(row).items[i] = from(rows.get(row).lane, bits);
        return 1;
    }

    long item(int row, int i) {
        return isItem(row, i) ? bits(rows.get(row).items[i]) : 0;
    }

    int size(int row) {
        return isRow(row) ? rows.get(row).items.length : BAD;
    }

    private boolean isRowOf(int kind, long number) {
        if (kind < 8 || number == -1) {
            return true;
        }
        return isRow(number) && (kind == 16 || rows.get((int) number).lane + 8 == kind);
    }

    // ---- types

    int type(int result, int n, int... kinds) {
        if (result < 0 || result > 16 || n < 0 || n > 4) {
            return BAD;
        }
        List<Integer> parameters = new ArrayList<>();
        for (int i = 0; i < n; i++) {
            if (kinds[i] < 0 || kinds[i] > 16) {
                return BAD;
            }
            parameters.add(kinds[i]);
        }
        hand = new Shape(List.copyOf(parameters), result);
        return 1;
    }

    int handles() {
        return programs.size();
    }

    Shape shape(int handle) {
        return programs.get(handle).key.shape;
    }

    Shape hand() {
        return hand;
    }

    int rows() {
        return rows.size();
    }

    private boolean isHandle(int number) {
        return number >= 0 && number < programs.size();
    }

    int told(int handle, int what) {
        if (!isHandle(handle) || what < 0 || what > 6) {
            return BAD;
        }
        Shape its = shape(handle);
        if (what >= 3) {
            return what - 3 < its.parameters.size() ? its.parameters.get(what - 3) : BAD;
        }
        return what == 0 ? programs.get(handle).key.sort
            : what == 1 ? its.parameters.size() : its.result;
    }

    int fits(int handle) {
        if (!isHandle(handle)) {
            return BAD;
        }
        return hand.equals(shape(handle)) ? 2 : goes(hand, shape(handle)) ? 1 : 0;
    }

    // ---- making

    int make(int sort, int a, int b, int c, long v) {
        return make(sort, a, b, c, v, true);
    }

    /** What make would answer; where it is only looked at, 0 for any that could be made. */
    int make(int sort, int a, int b, int c, long v, boolean isKept) {
        Program made = new Program();
        int code = plan(sort, a, b, c, v, made);
        if (code < 0) {
            see("make " + sort + " " + code);
            return code;
        }
        for (int i = 0; i < programs.size(); i++) {
            if (programs.get(i).key.equals(made.key)) {
                return isKept ? i : FULL;
            }
        }
        if (programs.size() == 32) {
            return FULL;
        }
        if (!isKept) {
            return 0;
        }
        programs.add(made);
        see("made " + sort);
        return programs.size() - 1;
    }

    private static boolean isWithin(int number, int least, int most) {
        return number >= least && number <= most;
    }

    private int plan(int sort, int a, int b, int c, long v, Program made) {
        if (!isWithin(sort, 0, 22)) {
            return BAD;
        }
        if (sort <= 10) {
            return planAlone(sort, a, b, v, made);
        }
        if (!isHandle(a)) {
            return BAD;
        }
        int n = shape(a).parameters.size();
        return switch (sort) {
            case 11 -> !isWithin(b, 0, n) || !isWithin(c, 0, 16) ? BAD : drop(a, b, c, made);
            case 12 -> !isWithin(b, 0, n - 2) ? BAD : swap(a, b, made);
            case 13 -> twice(a, made);
            case 14 -> bind(a, v, made);
            case 15 -> !isWithin(b, 0, n - 1) || !isHandle(c) ? BAD : filter(a, b, c, made);
            case 16 -> !isHandle(b) ? BAD : fold(a, b, made);
            case 17 -> !isHandle(b) ? BAD : then(a, b, made);
            case 18 -> !isHandle(b) || !isHandle(c) ? BAD : guard(a, b, c, made);
            case 19 -> !isHeld(b) || !isHandle(c) ? BAD : catching(a, b, c, made);
            case 20 -> !isHandle(b) ? BAD : last(a, b, made);
            case 21 -> loop(a, made);
            default -> as(a, made);
        };
    }

    private static boolean isHeld(int code) {
        return List.of(HELD.split(" ")).contains(String.valueOf(code));
    }

    private int planAlone(int sort, int a, int b, long v, Program made) {
        int most = sort == 0 || sort == 1 || sort == 9 ? 16 : 7;
        int least = sort >= 6 && sort <= 8 ? 4 : 0;
        if (!isWithin(a, least, most) || sort == 9 && !isWithin(b, 0, 9)) {
            return BAD;
        }
        if (sort == 0 && !isRowOf(a, v)) {
            return BAD;
        }
        List<Integer> numbers = sort == 9 ? List.of(a, b) : List.of(a);
        Object constant = sort == 0 ? settled(a, v) : null;
        Shape shape = switch (sort) {
            case 0, 9 -> Shape.of(a);
            case 1 -> Shape.of(a, a);
            case 2 -> Shape.of(a, 8 + a, 4);
            case 3 -> Shape.of(a, 8 + a, 4, a);
            case 4 -> Shape.of(4, 8 + a);
            case 5 -> Shape.of(8 + a, 4);
            case 6, 7 -> Shape.of(a, a, a);
            case 8 -> Shape.of(0, a, a);
            default -> Shape.of(8 + a, 16);
        };
        made.key = new Key(sort, numbers, constant, shape);
        made.body = switch (sort) {
            case 0 -> p -> constant;
            case 1 -> p -> p.get(0);
            case 2 -> p -> place(p).items[(Integer) p.get(1)];
            case 3 -> this::write;
            case 4 -> p -> rowOf(p).items.length;
            case 5 -> p -> created(a, (Integer) p.get(0));
            case 6 -> p -> sum(p.get(0), p.get(1));
            case 7 -> p -> quotient(p.get(0), p.get(1));
            case 8 -> p -> above(p.get(0), p.get(1));
            case 9 -> p -> { throw new Failure(20 + b); };
            default -> p -> cast(a, (Ref) p.get(0));
        };
        return 0;
    }

    /** By its bits: of what is no number there is one alone. */
    private static Object settled(int kind, long v) {
        return from(kind, bits(from(kind, v)));
    }

    private Row rowOf(List<Object> p) throws Failure {
        long number = ((Ref) p.get(0)).number;
        if (number == -1) {
            throw new Failure(1);
        }
        return rows.get((int) number);
    }

    private Row place(List<Object> p) throws Failure {
        Row row = rowOf(p);
        int i = (Integer) p.get(1);
        if (i < 0 || i >= row.items.length) {
            throw new Failure(2);
        }
        return row;
    }

    private Object write(List<Object> p) throws Failure {
        Row row = place(p);
        int i = (Integer) p.get(1);
        Object was = row.items[i];
        row.items[i] = p.get(2);
        return was;
    }

    private Object created(int lane, int n) throws Failure {
        if (n < 0) {
            throw new Failure(4);
        }
        int number = row(lane, n);
        if (number < 0) {
            throw new Failure(6);
        }
        return new Ref(number);
    }

    private static Object sum(Object x, Object y) {
        if (x instanceof Integer i) {
            return i + (Integer) y;
        }
        if (x instanceof Long l) {
            return l + (Long) y;
        }
        if (x instanceof Float f) {
            return f + (Float) y;
        }
        return (Double) x + (Double) y;
    }

    private static Object quotient(Object x, Object y) throws Failure {
        if (y instanceof Integer && (Integer) y == 0 || y instanceof Long && (Long) y == 0) {
            throw new Failure(3);
        }
        if (x instanceof Integer i) {
            return i / (Integer) y;
        }
        if (x instanceof Long l) {
            return l / (Long) y;
        }
        if (x instanceof Float f) {
            return f / (Float) y;
        }
        return (Double) x / (Double) y;
    }

    private static Object above(Object x, Object y) {
        if (x instanceof Integer || x instanceof Long) {
            return ((Number) x).longValue() > ((Number) y).longValue();
        }
        return ((Number) x).doubleValue() > ((Number) y).doubleValue();
    }

    private Object cast(int lane, Ref ref) throws Failure {
        if (ref.number != -1 && rows.get((int) ref.number).lane != lane) {
            throw new Failure(5);
        }
        return ref;
    }

    private static <T> List<T> with(List<T> list, int place, T more) {
        List<T> all = new ArrayList<>(list);
        all.add(place, more);
        return List.copyOf(all);
    }

    private static <T> List<T> without(List<T> list, int place) {
        List<T> all = new ArrayList<>(list);
        all.remove(place);
        return List.copyOf(all);
    }

    private static <T> List<T> exchanged(List<T> list, int place, T other) {
        List<T> all = new ArrayList<>(list);
        all.set(place, other);
        return List.copyOf(all);
    }

    private static boolean isFirst(List<Integer> some, List<Integer> all) {
        return some.size() <= all.size() && all.subList(0, some.size()).equals(some);
    }

    private int drop(int a, int b, int c, Program made) {
        Shape h = shape(a);
        if (h.parameters.size() == 4) {
            return MISFIT;
        }
        made.key = new Key(11, List.of(a, b, c), null,
            new Shape(with(h.parameters, b, c), h.result));
        made.body = p -> perform(a, without(p, b));
        return 0;
    }

    private int swap(int a, int b, Program made) {
        Shape h = shape(a);
        made.key = new Key(12, List.of(a, b), null, new Shape(swapped(h.parameters, b), h.result));
        made.body = p -> perform(a, swapped(p, b));
        return 0;
    }

    private static <T> List<T> swapped(List<T> list, int place) {
        List<T> all = new ArrayList<>(list);
        java.util.Collections.swap(all, place, place + 1);
        return List.copyOf(all);
    }

    private int twice(int a, Program made) {
        Shape h = shape(a);
        boolean isFit = h.parameters.size() >= 2
            && Objects.equals(h.parameters.get(0), h.parameters.get(1));
        if (!isFit) {
            return MISFIT;
        }
        made.key = new Key(13, List.of(a), null, new Shape(without(h.parameters, 0), h.result));
        made.body = p -> perform(a, with(p, 0, p.get(0)));
        return 0;
    }

    private int bind(int a, long v, Program made) {
        Shape h = shape(a);
        if (h.parameters.isEmpty()) {
            return MISFIT;
        }
        int kind = h.parameters.get(0);
        if (!isRowOf(kind, v)) {
            return BAD;
        }
        Object bound = settled(kind, v);
        made.key = new Key(14, List.of(a), bound, new Shape(without(h.parameters, 0), h.result));
        made.body = p -> perform(a, with(p, 0, bound));
        return 0;
    }

    private int filter(int a, int b, int c, Program made) {
        Shape h = shape(a);
        Shape g = shape(c);
        if (g.parameters.size() != 1 || g.result != h.parameters.get(b)) {
            return MISFIT;
        }
        made.key = new Key(15, List.of(a, b, c), null,
            new Shape(exchanged(h.parameters, b, g.parameters.get(0)), h.result));
        made.body = p -> {
            Object gave = perform(c, List.of(p.get(b)));
            return perform(a, exchanged(p, b, gave));
        };
        return 0;
    }

    private int fold(int a, int b, Program made) {
        Shape h = shape(a);
        Shape g = shape(b);
        if (h.parameters.isEmpty() || h.parameters.get(0) != g.result
            || !isFirst(g.parameters, without(h.parameters, 0))) {
            return MISFIT;
        }
        int n = g.parameters.size();
        made.key = new Key(16, List.of(a, b), null, new Shape(without(h.parameters, 0), h.result));
        made.body = p -> {
            Object gave = perform(b, p.subList(0, n));
            return perform(a, with(p, 0, gave));
        };
        return 0;
    }

    private int then(int a, int b, Program made) {
        Shape h = shape(a);
        Shape g = shape(b);
        if (!g.parameters.equals(List.of(h.result))) {
            return MISFIT;
        }
        made.key = new Key(17, List.of(a, b), null, new Shape(h.parameters, g.result));
        made.body = p -> perform(b, List.of(perform(a, p)));
        return 0;
    }

    private int guard(int a, int b, int c, Program made) {
        Shape t = shape(a);
        Shape h = shape(b);
        if (!h.equals(shape(c)) || t.result != 0 || !isFirst(t.parameters, h.parameters)) {
            return MISFIT;
        }
        int n = t.parameters.size();
        made.key = new Key(18, List.of(a, b, c), null, h);
        made.body = p -> (Boolean) perform(a, p.subList(0, n)) ? perform(b, p) : perform(c, p);
        return 0;
    }

    private int catching(int a, int b, int c, Program made) {
        Shape h = shape(a);
        Shape g = shape(c);
        List<Integer> its = g.parameters;
        if (its.isEmpty() || its.get(0) != 4 || g.result != h.result
            || !isFirst(without(its, 0), h.parameters)) {
            return MISFIT;
        }
        made.key = new Key(19, List.of(a, b, c), null, h);
        made.body = p -> {
            int code;
            try {
                return perform(a, p);
            } catch (Failure failure) {
                if (failure.code == 7 || b != -1 && b != failure.code) {
                    throw failure;
                }
                code = failure.code;
            }
            see("caught " + code + (b == -1 ? " as any" : ""));
            return perform(c, with(p.subList(0, its.size() - 1), 0, code));
        };
        return 0;
    }

    private int last(int a, int b, Program made) {
        Shape h = shape(a);
        Shape g = shape(b);
        List<Integer> its = g.parameters;
        if (its.size() < 2 || its.get(0) != 4 || its.get(1) != h.result || g.result != h.result
            || !isFirst(its.subList(2, its.size()), h.parameters)) {
            return MISFIT;
        }
        made.key = new Key(20, List.of(a, b), null, h);
        made.body = p -> {
            List<Object> first = p.subList(0, its.size() - 2);
            Object gave;
            try {
                gave = perform(a, p);
            } catch (Failure failure) {
                if (failure.code != 7) {
                    see("last of a failure, of kind " + (h.result >= 8 ? "row" : "number"));
                    perform(b, with(with(first, 0, none(h.result)), 0, failure.code));
                    see("last of a failure that goes on");
                }
                throw failure;
            }
            return perform(b, with(with(first, 0, gave), 0, 0));
        };
        return 0;
    }

    private int loop(int a, Program made) {
        Shape h = shape(a);
        if (h.parameters.size() < 2 || h.parameters.get(1) != 4
            || h.parameters.get(0) != h.result) {
            return MISFIT;
        }
        made.key = new Key(21, List.of(a), null, new Shape(swapped(h.parameters, 0), h.result));
        made.body = p -> {
            Object now = p.get(1);
            int n = (Integer) p.get(0);
            for (int i = 0; i < n; i++) {
                now = perform(a, exchanged(exchanged(p, 0, now), 1, i));
            }
            return now;
        };
        return 0;
    }

    private int as(int a, Program made) {
        Shape outer = hand;
        Shape inner = shape(a);
        if (!goes(outer, inner)) {
            return MISFIT;
        }
        made.key = new Key(22, List.of(a), null, outer);
        made.body = p -> widen(perform(a, widen(p, inner)), outer.result);
        return 0;
    }

    private static List<Object> widen(List<Object> values, Shape to) {
        List<Object> all = new ArrayList<>();
        for (int i = 0; i < values.size(); i++) {
            all.add(widen(values.get(i), to.parameters.get(i)));
        }
        return all;
    }

    // ---- running

    private Object perform(int handle, List<Object> given) throws Failure {
        if (steps == 2000) {
            failedLast = handle;
            see("spent by steps");
            throw new Failure(7);
        }
        steps++;
        Program program = programs.get(handle);
        see("ran " + program.key.sort);
        if (program.key.sort > 10) {
            return program.body.go(given);
        }
        try {
            return program.body.go(given);
        } catch (Failure failure) {
            failedLast = handle;
            if (failures == 24) {
                see("spent by failures");
                throw new Failure(7);
            }
            failures++;
            see("failed " + failure.code);
            throw failure;
        }
    }

    int give(int k, long v) {
        if (k < 0 || k > 3) {
            return BAD;
        }
        given[k] = v;
        return 1;
    }

    int run(int handle, boolean exact) {
        if (!isHandle(handle)) {
            return BAD;
        }
        Shape its = shape(handle);
        if (exact ? !hand.equals(its) : !goes(hand, its)) {
            return WRONG;
        }
        List<Object> values = new ArrayList<>();
        for (int i = 0; i < hand.parameters.size(); i++) {
            int kind = hand.parameters.get(i);
            if (!isRowOf(kind, given[i])) {
                return BAD;
            }
            values.add(from(kind, given[i]));
        }
        runs++;
        steps = 0;
        failures = 0;
        failedLast = -1;
        try {
            result = bits(widen(perform(handle, widen(values, its)), hand.result));
            return 1;
        } catch (Failure failure) {
            see("run answered " + (-10 - failure.code));
            return -10 - failure.code;
        }
    }

    long value() {
        return result;
    }

    int last(int what) {
        return what == 0 ? steps : what == 1 ? failures : what == 2 ? failedLast : BAD;
    }

    int count(int what) {
        return what == 0 ? rows.size() : what == 1 ? programs.size() : what == 2 ? runs : BAD;
    }
}
