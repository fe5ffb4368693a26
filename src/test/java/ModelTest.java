import java.util.ArrayList;
import java.util.List;
import java.util.Random;
import java.util.TreeMap;

/** Random calls on the class and on the Model beside it: every answer must be the same. */
public final class ModelTest {
    private static final int OBJECTS = 6000;
    private static final int CALLS = 512;
    private static final long[] EDGES = {0, 1, -1, 2, 3, 7, 8, 9, 127, 128, 255, 256, -128, -129,
        32767, 32768, 65535, 65536, -32768, 1999, 2000, 2001, 700, Integer.MAX_VALUE,
        Integer.MIN_VALUE, 1L << 31, 1L << 32, Long.MAX_VALUE, Long.MIN_VALUE, (1L << 53) + 1,
        (1L << 24) + 1, 0x7fc00000L, 0x7f800000L, 0xff800000L, 0x7f800001L, 0x3f800000L,
        0x80000000L, 0x00800000L, 0x7f7fffffL, 0x7ff0000000000000L, 0xfff0000000000000L,
        0x7ff8000000000001L, 0x3ff0000000000000L, 0x0010000000000000L, 0x7fefffffffffffffL};

    private final Checks checks;
    private final Random random;
    private final ScoreHandles x = new ScoreHandles();
    private final Model model = new Model();
    private final String name;
    private final int[] palette;
    private int calls;

    private ModelTest(Checks checks, long seed) {
        this.checks = checks;
        this.random = new Random(seed);
        this.name = "object " + seed + " call ";
        this.palette = new int[] {4, random.nextInt(8), random.nextInt(17), 4};
    }

    public static void main(String[] args) {
        Checks checks = new Checks();
        TreeMap<String, Integer> seen = new TreeMap<>();
        for (int seed = 0; seed < OBJECTS && !checks.isAnyWrong(); seed++) {
            ModelTest test = new ModelTest(checks, seed);
            test.go();
            test.model.seen.forEach((what, n) -> seen.merge(what, n, Integer::sum));
        }
        if (args.length > 0) {
            System.out.println(seen);
        }
        for (String what : due()) {
            checks.holds("seen: " + what, seen.containsKey(what));
        }
        checks.end("ModelTest");
    }

    /** What must have come, for this test to say anything. */
    private static List<String> due() {
        List<String> all = new ArrayList<>(List.of("spent by steps", "spent by failures",
            "last of a failure that goes on", "last of a failure, of kind number",
            "last of a failure, of kind row", "run answered -17"));
        for (int sort = 0; sort <= 22; sort++) {
            all.addAll(List.of("made " + sort, "ran " + sort, "make " + sort + " -1"));
            // None of those made of no other can misfit, nor SWAP, whose place is told.
            if (sort > 10 && sort != 12) {
                all.add("make " + sort + " -3");
            }
        }
        for (int code = 1; code <= 29; code = code == 6 ? 20 : code + 1) {
            all.addAll(List.of("failed " + code, "caught " + code, "caught " + code + " as any",
                "run answered " + (-10 - code)));
        }
        return all;
    }

    private void same(String call, long got, long want) {
        calls++;
        checks.due(name + calls + ": " + call, got, want);
    }

    private void go() {
        if (random.nextInt(3) == 0) {
            failing();
        }
        while (calls < CALLS - 16 && !checks.isAnyWrong()) {
            int what = random.nextInt(100);
            if (what < 6) {
                row();
            } else if (what < 16) {
                items();
            } else if (what < 50) {
                make();
            } else if (what < 62) {
                type();
            } else if (what < 66) {
                look();
            } else {
                runOne();
            }
        }
    }

    private int kind() {
        return random.nextInt(4) == 0 ? random.nextInt(17) : palette[random.nextInt(4)];
    }

    private int odd(int usual) {
        if (random.nextInt(40) != 0) {
            return usual;
        }
        int[] those = {-1, -2, 4, 7, 8, 9, 10, 16, 17, 23, 31, 32, 33, Integer.MAX_VALUE,
            Integer.MIN_VALUE, 19, 30};
        return those[random.nextInt(those.length)];
    }

    private long number() {
        return switch (random.nextInt(5)) {
            case 0 -> EDGES[random.nextInt(EDGES.length)];
            case 1 -> random.nextLong() >> random.nextInt(64);
            default -> random.nextInt(7) - 1;
        };
    }

    private long real(int kind) {
        if (random.nextInt(4) == 0) {
            return number();
        }
        double some = (random.nextInt(41) - 20) / 8.0;
        return kind == 6 ? Float.floatToIntBits((float) some) : Double.doubleToLongBits(some);
    }

    private long numberOf(int kind) {
        if (kind >= 8) {
            return random.nextInt(model.rows() + 3) - 1;
        }
        return kind == 6 || kind == 7 ? real(kind) : number();
    }

    private int handle() {
        int many = model.handles();
        return odd(many == 0 ? 0 : many - 1 - random.nextInt(1 + random.nextInt(many)));
    }

    private void row() {
        int lane = odd(kind() % 8);
        int n = odd(random.nextInt(9));
        same("row(" + lane + ", " + n + ")", x.row(lane, n), model.row(lane, n));
    }

    private void items() {
        int row = odd(random.nextInt(model.rows() + 1));
        int i = odd(random.nextInt(8));
        long v = number();
        same("put(" + row + ", " + i + ", " + v + ")", x.put(row, i, v), model.put(row, i, v));
        same("item(" + row + ", " + i + ")", x.item(row, i), model.item(row, i));
        same("size(" + row + ")", x.size(row), model.size(row));
    }

    private void make() {
        int sort = 0;
        int a = 0;
        int b = 0;
        int c = 0;
        long v = 0;
        int tries = random.nextInt(8) == 0 ? 1 : 300;
        boolean isAnyThere = model.handles() > 3;
        int wanted = isAnyThere && random.nextInt(3) > 0 ? 11 + random.nextInt(12)
            : random.nextInt(11);
        for (int i = 0; i < tries; i++) {
            sort = odd(wanted);
            boolean isAlone = sort <= 10;
            a = odd(isAlone ? sort >= 6 && sort <= 8 ? 4 + random.nextInt(4)
                : sort >= 2 && sort != 9 ? kind() % 8 : kind() : handle());
            b = odd(sort == 9 ? random.nextInt(10) : sort <= 15 ? random.nextInt(4)
                : sort == 19 ? code() : handle());
            c = odd(sort == 11 ? kind() : handle());
            v = numberOf(sort == 0 ? a : sort == 14 ? first(a) : 4);
            if (model.make(sort, a, b, c, v, false) == 0) {
                break;
            }
        }
        same("make(" + sort + ", " + a + ", " + b + ", " + c + ", " + v + ")",
            x.make(sort, a, b, c, v), model.make(sort, a, b, c, v));
        int handle = model.handles() - 1;
        for (int what = -1; what <= 7; what++) {
            if (random.nextInt(6) == 0) {
                same("told(" + handle + ", " + what + ")", x.told(handle, what),
                    model.told(handle, what));
            }
        }
    }

    private int made(int sort, int a, int b, int c) {
        int number = model.make(sort, a, b, c, 0);
        same("make(" + sort + ", " + a + ", " + b + ", " + c + ", 0)", x.make(sort, a, b, c, 0),
            number);
        return number;
    }

    /** What fails, is caught, done at last, looped: calls at random seldom come upon these. */
    private void failing() {
        int kind = random.nextInt(17);
        int own = random.nextInt(10);
        int fails = made(11, made(11, made(9, kind, own, 0), 0, 4), 0, kind);
        int some = made(11, made(1, kind, 0, 0), 0, 4);
        int back = made(12, some, 0, 0);
        int code = random.nextInt(3) == 0 ? code() : random.nextInt(2) * (21 + own) - 1;
        int caught = made(19, fails, code, some);
        int atLast = made(20, random.nextBoolean() ? fails : caught, some, 0);
        made(21, made(19, atLast, random.nextBoolean() ? -1 : 20 + own, some), 0, 0);
        made(21, caught, 0, 0);
        made(21, back, 0, 0);
    }

    private int first(int handle) {
        boolean isThere = handle >= 0 && handle < model.handles()
            && !model.shape(handle).parameters().isEmpty();
        return isThere ? model.shape(handle).parameters().get(0) : 4;
    }

    private int code() {
        int[] codes = {-1, -1, -1, 1, 2, 3, 4, 5, 6, 7, 0};
        int which = random.nextInt(2 * codes.length);
        return which < codes.length ? codes[which] : 20 + random.nextInt(10);
    }

    private void type() {
        int n = odd(random.nextInt(5));
        int result = odd(kind());
        int[] k = {odd(kind()), odd(kind()), odd(kind()), odd(kind())};
        type(result, n, k);
    }

    private void type(int result, int n, int[] k) {
        same("type(" + result + ", " + n + ", " + k[0] + ", " + k[1] + ", " + k[2] + ", " + k[3]
            + ")", x.type(result, n, k[0], k[1], k[2], k[3]), model.type(result, n, k));
        if (random.nextInt(3) == 0) {
            int handle = handle();
            same("fits(" + handle + ")", x.fits(handle), model.fits(handle));
        }
    }

    /** The type of a handle, or one that goes to it. */
    private void typeFor(int handle) {
        Model.Shape its = model.shape(handle);
        boolean isNear = random.nextInt(3) == 0;
        int[] k = {kind(), kind(), kind(), kind()};
        for (int i = 0; i < its.parameters().size(); i++) {
            k[i] = its.parameters().get(i);
            int other = random.nextInt(17);
            if (isNear && Model.goes(other, k[i])) {
                k[i] = other;
            }
        }
        int result = its.result();
        int other = random.nextInt(17);
        if (isNear && Model.goes(result, other)) {
            result = other;
        }
        type(result, its.parameters().size(), k);
    }

    private void look() {
        int handle = handle();
        int what = odd(random.nextInt(9) - 1);
        same("told(" + handle + ", " + what + ")", x.told(handle, what), model.told(handle, what));
        same("count(" + what + ")", x.count(what), model.count(what));
        same("last(" + what + ")", x.last(what), model.last(what));
        same("fits(" + handle + ")", x.fits(handle), model.fits(handle));
        long v = number();
        same("give(" + what + ", " + v + ")", x.give(what, v), model.give(what, v));
    }

    private void runOne() {
        if (model.handles() == 0) {
            return;
        }
        int handle = Math.max(0, Math.min(handle(), model.handles() - 1));
        if (random.nextInt(10) > 0) {
            typeFor(handle);
        }
        int n = model.hand().parameters().size();
        for (int k = 0; k < n; k++) {
            if (random.nextInt(3) > 0) {
                long v = numberOf(model.hand().parameters().get(k));
                same("give(" + k + ", " + v + ")", x.give(k, v), model.give(k, v));
            }
        }
        boolean isExact = random.nextBoolean();
        same("run(" + handle + ", " + isExact + ")", x.run(handle, isExact),
            model.run(handle, isExact));
        same("value()", x.value(), model.value());
        for (int what = 0; what < 3; what++) {
            same("last(" + what + ")", x.last(what), model.last(what));
        }
        same("count(2)", x.count(2), model.count(2));
        if (model.rows() > 0) {
            int row = random.nextInt(model.rows());
            int i = random.nextInt(8);
            same("item(" + row + ", " + i + ")", x.item(row, i), model.item(row, i));
        }
    }
}
