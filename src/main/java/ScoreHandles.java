/**
 * Small programs made of one another by their exact kinds, kept by number and run by number.
 *
 * <p>A value is held everywhere as its BITS in a long, so that one row of longs serves for the
 * parameters of all kinds and a run makes no object of its own.
 */
public final class ScoreHandles {
    public static final int BAD = -1, FULL = -2, MISFIT = -3, WRONG = -4;

    private static final int PARAMETERS_MOST = 4;
    private static final int ROWS_MOST = 16;
    private static final int ITEMS_MOST = 8;
    private static final int HANDLES_MOST = 32;
    private static final int NO_ROW = -1;
    private static final int NO_HANDLE = -1;
    private static final int BELOW_FAILURES = -10;

    private final Rows rows;
    private final Handles handles;
    private final Maker maker;
    private final Runner runner;
    private final long[] numbers;
    private Type atHand;
    private long result;
    private int runs;

    public ScoreHandles() {
        Rows noRows = new Rows();
        Handles noHandles = new Handles();
        rows = noRows;
        handles = noHandles;
        maker = new Maker(noHandles, noRows);
        runner = new Runner(noHandles, noRows);
        numbers = new long[PARAMETERS_MOST];
        atHand = new Type(Kind.INT, 0, new int[PARAMETERS_MOST]);
    }

    public int row(int lane, int n) {
        if (!Kind.isLane(lane) || n < 0 || n > ITEMS_MOST) {
            return BAD;
        }
        return rows.added(lane, n);
    }

    public int put(int row, int i, long bits) {
        Row there = rows.at(row);
        if (there == null || !there.has(i)) {
            return BAD;
        }
        there.set(i, Kind.fromBits(there.lane, bits));
        return 1;
    }

    public long item(int row, int i) {
        Row there = rows.at(row);
        return there == null ? 0 : there.get(i);
    }

    public int size(int row) {
        Row there = rows.at(row);
        return there == null ? BAD : there.many();
    }

    public int type(int result, int n, int k0, int k1, int k2, int k3) {
        if (!Kind.isKind(result) || n < 0 || n > PARAMETERS_MOST) {
            return BAD;
        }
        int[] kinds = {k0, k1, k2, k3};
        for (int place = 0; place < n && place < kinds.length; place++) {
            if (!Kind.isKind(kinds[place])) {
                return BAD;
            }
        }
        atHand = new Type(result, n, kinds);
        return 1;
    }

    public int make(int sort, int a, int b, int c, long v) {
        Handle wanted = new Handle(sort, a, b, c, v);
        if (!maker.isTold(wanted)) {
            return BAD;
        }
        Type its = maker.typeOf(wanted, atHand);
        if (its == null) {
            return MISFIT;
        }
        wanted.settle(its, maker.bitsOf(wanted));
        return handles.numberOf(wanted);
    }

    public int told(int handle, int what) {
        Handle there = handles.at(handle);
        if (there == null || what < 0) {
            return BAD;
        }
        switch (what) {
            case 0:
                return there.sort;
            case 1:
                return there.type.many;
            case 2:
                return there.type.result;
            default:
                int kind = there.type.kind(what - 3);
                return kind == Kind.NONE ? BAD : kind;
        }
    }

    public int fits(int handle) {
        Handle there = handles.at(handle);
        if (there == null) {
            return BAD;
        }
        if (atHand.isSame(there.type)) {
            return 2;
        }
        return atHand.goesTo(there.type) ? 1 : 0;
    }

    public int give(int k, long v) {
        if (k < 0 || k >= numbers.length) {
            return BAD;
        }
        numbers[k] = v;
        return 1;
    }

    public int run(int handle, boolean exact) {
        Handle there = handles.at(handle);
        if (there == null) {
            return BAD;
        }
        if (exact ? !atHand.isSame(there.type) : !atHand.goesTo(there.type)) {
            return WRONG;
        }
        if (!givenRowsAreThere()) {
            return BAD;
        }
        runs++;
        runner.forget();
        handOverNumbers(there.type);
        long gave = runner.perform(handle, 0);
        if (runner.failure != 0) {
            return BELOW_FAILURES - runner.failure;
        }
        result = Kind.widened(there.type.result, atHand.result, gave);
        return 1;
    }

    public long value() {
        return result;
    }

    public int last(int what) {
        switch (what) {
            case 0:
                return runner.steps;
            case 1:
                return runner.failures;
            case 2:
                return runner.failedLast;
            default:
                return BAD;
        }
    }

    public int count(int what) {
        switch (what) {
            case 0:
                return rows.many;
            case 1:
                return handles.many;
            case 2:
                return runs;
            default:
                return BAD;
        }
    }

    private boolean givenRowsAreThere() {
        for (int place = 0; place < atHand.many && place < numbers.length; place++) {
            if (!rows.mayBe(atHand.kind(place), numbers[place])) {
                return false;
            }
        }
        return true;
    }

    private void handOverNumbers(Type its) {
        for (int place = 0; place < atHand.many && place < numbers.length; place++) {
            int kind = atHand.kind(place);
            long bits = Kind.fromBits(kind, numbers[place]);
            runner.hand(0, place, Kind.widened(kind, its.kind(place), bits));
        }
    }

    /** The sorts of handles, and which of the numbers b, c, v each has. */
    private static final class Sort {
        private static final int CONSTANT = 0, SELF = 1, READ = 2, WRITE = 3, SIZE = 4, NEW = 5,
            SUM = 6, QUOTIENT = 7, ABOVE = 8, FAIL = 9, CAST = 10, DROP = 11, SWAP = 12,
            TWICE = 13, BIND = 14, FILTER = 15, FOLD = 16, THEN = 17, GUARD = 18, CATCH = 19,
            LAST = 20, LOOP = 21, AS = 22;
        private static final int HAVE_B = 1 << FAIL | 1 << DROP | 1 << SWAP | 1 << FILTER
            | 1 << FOLD | 1 << THEN | 1 << GUARD | 1 << CATCH | 1 << LAST;
        private static final int HAVE_C = 1 << DROP | 1 << FILTER | 1 << GUARD | 1 << CATCH;
        private static final int HAVE_V = 1 << CONSTANT | 1 << BIND;

        private static boolean isSort(int sort) {
            return sort >= CONSTANT && sort <= AS;
        }

        private static boolean isAmong(int sort, int those) {
            return isSort(sort) && (those >> sort & 1) == 1;
        }
    }

    /** The kinds of values, and how one goes to another. */
    private static final class Kind {
        private static final int NONE = -1, TRUTH = 0, BYTE = 1, SHORT = 2, CHAR = 3, INT = 4,
            LONG = 5, FLOAT = 6, DOUBLE = 7, ROW = 8, ANY_ROW = 16;

        private static boolean isKind(int kind) {
            return kind >= TRUTH && kind <= ANY_ROW;
        }

        private static boolean isLane(int kind) {
            return kind >= TRUTH && kind <= DOUBLE;
        }

        private static boolean isReckoned(int kind) {
            return kind >= INT && kind <= DOUBLE;
        }

        private static boolean isRow(int kind) {
            return kind >= ROW && kind <= ANY_ROW;
        }

        private static boolean goes(int from, int to) {
            if (from == to) {
                return true;
            }
            if (isRow(from)) {
                return to == ANY_ROW;
            }
            // A char has no sign, so neither a byte nor a short goes to it.
            return from >= BYTE && from < to && to <= DOUBLE && to != CHAR;
        }

        private static long fromBits(int kind, long bits) {
            switch (kind) {
                case TRUTH:
                    return bits != 0 ? 1 : 0;
                case BYTE:
                    return (byte) bits;
                case SHORT:
                    return (short) bits;
                case CHAR:
                    return (char) bits;
                case INT:
                    return (int) bits;
                case FLOAT:
                    return Real.SINGLE.plain((int) bits);
                case DOUBLE:
                    return Real.DOUBLE.plain(bits);
                default:
                    return bits;
            }
        }

        private static long widened(int from, int to, long bits) {
            if (from == to) {
                return bits;
            }
            if (to == FLOAT) {
                return Real.SINGLE.fromWhole(bits);
            }
            if (to == DOUBLE) {
                return from == FLOAT ? Real.DOUBLE.fromSingle(bits) : Real.DOUBLE.fromWhole(bits);
            }
            return bits;
        }

        /** What stands for a value where there is none. */
        private static long nothing(int kind) {
            return isRow(kind) ? NO_ROW : 0;
        }
    }

    /**
     * Floats and doubles reckoned on their bits: the machine's own reckoning could answer what is
     * no number, and offers no way from a float to its bits within the language kept to.
     */
    private enum Real {
        SINGLE(23, 8), DOUBLE(52, 11);

        // Room below a significand, so that what is shifted out still tells how to round.
        private static final int SPARE = 8;
        private static final int TOP = 62;
        private static final int DIGIT = 10;
        private static final int DIGITS = 6;

        private final int fraction;
        private final int bias;
        private final int beyond;
        private final long signs;

        Real(int fraction, int exponent) {
            this.fraction = fraction;
            this.bias = (1 << (exponent - 1)) - 1;
            this.beyond = (1 << exponent) - 1;
            // Floats are held as ints widened to longs: all bits from the sign's on are alike.
            this.signs = -1L << (fraction + exponent);
        }

        private long infinity() {
            return (long) beyond << fraction;
        }

        private long noNumber() {
            return infinity() | 1L << (fraction - 1);
        }

        private long magnitude(long bits) {
            return bits & ~signs;
        }

        private boolean isNoNumber(long bits) {
            return magnitude(bits) > infinity();
        }

        private long signed(boolean negative, long magnitude) {
            return negative ? magnitude | signs : magnitude;
        }

        private long plain(long bits) {
            return isNoNumber(bits) ? noNumber() : bits;
        }

        private long significand(long bits) {
            long hidden = 1L << fraction;
            long magnitude = magnitude(bits);
            return magnitude < hidden ? magnitude : magnitude & (hidden - 1) | hidden;
        }

        /** The power of two that the significand is to be multiplied by. */
        private int power(long bits) {
            return Math.max(1, (int) (magnitude(bits) >> fraction)) - bias - fraction;
        }

        private boolean isAbove(long x, long y) {
            return !isNoNumber(x) && !isNoNumber(y) && ordered(x) > ordered(y);
        }

        // Both zeros are one here, which their bits are not.
        private long ordered(long bits) {
            return bits < 0 ? -magnitude(bits) : magnitude(bits);
        }

        private long sumOf(long x, long y) {
            if (magnitude(x) >= infinity() || magnitude(y) >= infinity()) {
                return sumBeyond(x, y);
            }
            int power = Math.max(power(x), power(y));
            long total = aligned(x, power) + aligned(y, power);
            if (total == 0) {
                return signed(x < 0 && y < 0, 0);
            }
            return rounded(total < 0, Math.abs(total), power - SPARE);
        }

        private long sumBeyond(long x, long y) {
            boolean bothInfinite = magnitude(x) == magnitude(y);
            if (isNoNumber(x) || isNoNumber(y) || bothInfinite && x != y) {
                return noNumber();
            }
            return magnitude(x) == infinity() ? x : y;
        }

        private long aligned(long bits, int power) {
            long whole = significand(bits) << SPARE;
            int down = power - power(bits);
            long kept = down > TOP ? 0 : whole >> down;
            boolean isLess = down > TOP ? whole != 0 : kept << down != whole;
            // The lowest bit stands for all that was lost below it.
            long sure = isLess ? kept | 1 : kept;
            return bits < 0 ? -sure : sure;
        }

        private long quotientOf(long x, long y) {
            long over = magnitude(x);
            long under = magnitude(y);
            boolean isNegative = x < 0 != y < 0;
            boolean bothNoneOrAll = over == under && (over == 0 || over == infinity());
            if (isNoNumber(x) || isNoNumber(y) || bothNoneOrAll) {
                return noNumber();
            }
            if (over == infinity() || under == 0) {
                return signed(isNegative, infinity());
            }
            if (over == 0 || under == infinity()) {
                return signed(isNegative, 0);
            }
            return divided(isNegative, over, under);
        }

        private long divided(boolean isNegative, long over, long under) {
            int full = DOUBLE.fraction;
            int overUp = roomAbove(significand(over), full);
            int underUp = roomAbove(significand(under), full);
            long rest = significand(over) << overUp;
            long divisor = significand(under) << underUp;
            if (divisor <= 0) {
                return signed(isNegative, infinity());
            }
            long quotient = rest / divisor;
            rest = rest % divisor;
            for (int digit = 0; digit < DIGITS; digit++) {
                rest = rest << DIGIT;
                quotient = quotient << DIGIT | rest / divisor;
                rest = rest % divisor;
            }
            int power = power(over) - overUp - power(under) + underUp - DIGIT * DIGITS - 1;
            return rounded(isNegative, quotient << 1 | (rest == 0 ? 0 : 1), power);
        }

        private long fromWhole(long whole) {
            if (whole == 0) {
                return 0;
            }
            long magnitude = Math.abs(whole);
            if (magnitude < 0) {
                // The least long has a magnitude that no long holds, but half of it fits one.
                return rounded(true, 1L << TOP, 1);
            }
            return rounded(whole < 0, magnitude, 0);
        }

        private long fromSingle(long bits) {
            boolean isNegative = bits < 0;
            long magnitude = SINGLE.magnitude(bits);
            if (magnitude > SINGLE.infinity()) {
                return noNumber();
            }
            if (magnitude == SINGLE.infinity()) {
                return signed(isNegative, infinity());
            }
            if (magnitude == 0) {
                return signed(isNegative, 0);
            }
            return rounded(isNegative, SINGLE.significand(bits), SINGLE.power(bits));
        }

        /** The nearest one, of two as near the even one; the significand is above 0. */
        private long rounded(boolean isNegative, long significand, int power) {
            int up = roomAbove(significand, TOP);
            long full = significand << up;
            int exponent = power - up + TOP + bias;
            if (exponent >= beyond) {
                return signed(isNegative, infinity());
            }
            // Below the least exponent the significand itself has fewer and fewer bits.
            int down = TOP - fraction + (exponent < 1 ? 1 - exponent : 0);
            if (down > TOP + 1) {
                return signed(isNegative, 0);
            }
            long kept = full >>> down;
            long lost = full - (kept << down);
            long half = 1L << (down - 1);
            if (lost > half || lost == half && (kept & 1) == 1) {
                kept++;
            }
            // The hidden bit of what is kept counts the exponent up by one, as a carry does.
            long below = exponent < 1 ? 0 : (long) (exponent - 1) << fraction;
            return signed(isNegative, below + kept);
        }

        private static int roomAbove(long significand, int top) {
            int room = 0;
            for (int part = 32; part > 0; part >>= 1) {
                if (significand << room >>> (top + 1 - part) == 0) {
                    room += part;
                }
            }
            return room;
        }
    }

    /** The kinds of parameters and of a result; never changed once it is made. */
    private static final class Type {
        private final int result;
        private final int many;
        private final int[] kinds;

        private Type(int result, int many, int[] kinds) {
            this.result = result;
            this.many = many;
            this.kinds = kinds;
        }

        private static Type of(int result, int many, int k0, int k1, int k2) {
            int[] kinds = {k0, k1, k2, 0};
            return new Type(result, many, kinds);
        }

        private int kind(int place) {
            boolean isThere = place >= 0 && place < many && place < kinds.length;
            return isThere ? kinds[place] : Kind.NONE;
        }

        private boolean isSame(Type other) {
            return result == other.result && many == other.many && isFirstOf(other, 0, 0);
        }

        private boolean goesTo(Type other) {
            if (many != other.many || !Kind.goes(other.result, result)) {
                return false;
            }
            for (int place = 0; place < many; place++) {
                if (!Kind.goes(kind(place), other.kind(place))) {
                    return false;
                }
            }
            return true;
        }

        /** Whether its parameters behind the place mine are the first ones behind theirs. */
        private boolean isFirstOf(Type other, int mine, int theirs) {
            for (int place = mine; place < many; place++) {
                if (kind(place) != other.kind(theirs + place - mine)) {
                    return false;
                }
            }
            return true;
        }

        private Type giving(int otherResult) {
            return new Type(otherResult, many, kinds);
        }

        private Type changed(int place, int kind) {
            int[] others = new int[PARAMETERS_MOST];
            for (int i = 0; i < others.length; i++) {
                others[i] = i == place ? kind : kind(i);
            }
            return new Type(result, many, others);
        }

        private Type swapped(int place) {
            return changed(place, kind(place + 1)).changed(place + 1, kind(place));
        }

        private Type longer(int place, int kind) {
            int[] others = new int[PARAMETERS_MOST];
            for (int i = 0; i < others.length; i++) {
                others[i] = i < place ? kind(i) : i == place ? kind : kind(i - 1);
            }
            return new Type(result, Math.min(many + 1, PARAMETERS_MOST), others);
        }

        private Type withoutFirst() {
            int[] others = new int[PARAMETERS_MOST];
            for (int i = 0; i < others.length; i++) {
                others[i] = kind(i + 1);
            }
            return new Type(result, Math.max(many - 1, 0), others);
        }
    }

    /** Items of one lane. */
    private static final class Row {
        private final int lane;
        private final long[] items;

        private Row(int lane, int many) {
            this.lane = lane;
            this.items = new long[Math.max(0, Math.min(many, ITEMS_MOST))];
        }

        private int many() {
            return items.length;
        }

        private boolean has(long place) {
            return place >= 0 && place < items.length;
        }

        private long get(long place) {
            return has(place) ? items[(int) place] : 0;
        }

        private void set(long place, long bits) {
            if (has(place)) {
                items[(int) place] = bits;
            }
        }
    }

    /** The rows that are there, by their numbers. */
    private static final class Rows {
        private final Row[] kept = new Row[ROWS_MOST];
        private int many;

        private Row at(long number) {
            return number >= 0 && number < many && number < kept.length ? kept[(int) number] : null;
        }

        private int added(int lane, int items) {
            if (many >= kept.length) {
                return FULL;
            }
            kept[many] = new Row(lane, items);
            many++;
            return many - 1;
        }

        /** Whether a value of this kind may be of this number: what is no row may be of any. */
        private boolean mayBe(int kind, long number) {
            if (!Kind.isRow(kind) || number == NO_ROW) {
                return true;
            }
            Row there = at(number);
            return there != null && (kind == Kind.ANY_ROW || there.lane == kind - Kind.ROW);
        }
    }

    /** One program: its sort, the numbers that this sort has (0 for the others), its type. */
    private static final class Handle {
        private final int sort;
        private final int a;
        private final int b;
        private final int c;
        private long v;
        private Type type;
        private int number;

        private Handle(int sort, int a, int b, int c, long v) {
            this.sort = sort;
            this.a = a;
            this.b = Sort.isAmong(sort, Sort.HAVE_B) ? b : 0;
            this.c = Sort.isAmong(sort, Sort.HAVE_C) ? c : 0;
            this.v = Sort.isAmong(sort, Sort.HAVE_V) ? v : 0;
            this.number = NO_HANDLE;
        }

        private void settle(Type its, long bits) {
            type = its;
            v = bits;
        }

        private boolean isMadeAs(Handle other) {
            return sort == other.sort && a == other.a && b == other.b && c == other.c
                && v == other.v && type.isSame(other.type);
        }
    }

    /** The handles that are there, by their numbers. */
    private static final class Handles {
        private final Handle[] kept = new Handle[HANDLES_MOST];
        private int many;

        private Handle at(int number) {
            return number >= 0 && number < many && number < kept.length ? kept[number] : null;
        }

        private Type typeAt(int number) {
            Handle there = at(number);
            return there == null ? null : there.type;
        }

        /** The number of the one made alike, or of this one, which is kept then. */
        private int numberOf(Handle wanted) {
            for (int number = 0; number < many; number++) {
                Handle there = at(number);
                if (there != null && there.isMadeAs(wanted)) {
                    return number;
                }
            }
            if (many >= kept.length) {
                return FULL;
            }
            wanted.number = many;
            kept[many] = wanted;
            many++;
            return wanted.number;
        }
    }

    /** Looks at what a handle is to be made of, and finds its type. */
    private static final class Maker {
        private static final int CODES_MOST = 9;

        private final Handles handles;
        private final Rows rows;

        private Maker(Handles handles, Rows rows) {
            this.handles = handles;
            this.rows = rows;
        }

        private boolean isTold(Handle wanted) {
            return Sort.isSort(wanted.sort) && isFirstTold(wanted) && isSecondTold(wanted)
                && isThirdTold(wanted) && rows.mayBe(kindOfBits(wanted), wanted.v);
        }

        private boolean isFirstTold(Handle wanted) {
            switch (wanted.sort) {
                case Sort.CONSTANT:
                case Sort.SELF:
                case Sort.FAIL:
                    return Kind.isKind(wanted.a);
                case Sort.READ:
                case Sort.WRITE:
                case Sort.SIZE:
                case Sort.NEW:
                case Sort.CAST:
                    return Kind.isLane(wanted.a);
                case Sort.SUM:
                case Sort.QUOTIENT:
                case Sort.ABOVE:
                    return Kind.isReckoned(wanted.a);
                default:
                    return handles.at(wanted.a) != null;
            }
        }

        private boolean isSecondTold(Handle wanted) {
            int b = wanted.b;
            switch (wanted.sort) {
                case Sort.FAIL:
                    return b >= 0 && b <= CODES_MOST;
                case Sort.DROP:
                    return b >= 0 && b <= parametersOf(wanted.a);
                case Sort.SWAP:
                    return b >= 0 && b < parametersOf(wanted.a) - 1;
                case Sort.FILTER:
                    return b >= 0 && b < parametersOf(wanted.a);
                case Sort.FOLD:
                case Sort.THEN:
                case Sort.GUARD:
                case Sort.LAST:
                    return handles.at(b) != null;
                case Sort.CATCH:
                    return isHeld(b);
                default:
                    return true;
            }
        }

        private boolean isThirdTold(Handle wanted) {
            switch (wanted.sort) {
                case Sort.DROP:
                    return Kind.isKind(wanted.c);
                case Sort.FILTER:
                case Sort.GUARD:
                case Sort.CATCH:
                    return handles.at(wanted.c) != null;
                default:
                    return true;
            }
        }

        private static boolean isHeld(int code) {
            return code == Runner.ANY || code >= Runner.NOTHING && code < Runner.SPENT
                || code >= Runner.OWN && code <= Runner.OWN + CODES_MOST;
        }

        private int parametersOf(int number) {
            Type its = handles.typeAt(number);
            return its == null ? 0 : its.many;
        }

        /** The kind of the value v that a handle has, or none where it has no such value. */
        private int kindOfBits(Handle wanted) {
            if (wanted.sort == Sort.CONSTANT) {
                return wanted.a;
            }
            Type its = wanted.sort == Sort.BIND ? handles.typeAt(wanted.a) : null;
            return its == null ? Kind.NONE : its.kind(0);
        }

        private long bitsOf(Handle wanted) {
            return Kind.fromBits(kindOfBits(wanted), wanted.v);
        }

        /** The type that it has; null, where kinds do not go as told. */
        private Type typeOf(Handle wanted, Type atHand) {
            if (wanted.sort < Sort.DROP) {
                return typeAlone(wanted);
            }
            Type h = handles.typeAt(wanted.a);
            if (h == null) {
                return null;
            }
            switch (wanted.sort) {
                case Sort.DROP:
                    return h.many < PARAMETERS_MOST ? h.longer(wanted.b, wanted.c) : null;
                case Sort.SWAP:
                    return h.swapped(wanted.b);
                case Sort.TWICE:
                    return h.many > 1 && h.kind(0) == h.kind(1) ? h.withoutFirst() : null;
                case Sort.BIND:
                    return h.many > 0 ? h.withoutFirst() : null;
                case Sort.LOOP:
                    boolean goesRound = h.kind(0) == h.result && h.kind(1) == Kind.INT;
                    return goesRound ? h.swapped(0) : null;
                case Sort.AS:
                    return atHand.goesTo(h) ? atHand : null;
                default:
                    return typeOfSome(wanted, h);
            }
        }

        private static Type typeAlone(Handle wanted) {
            int a = wanted.a;
            int row = Kind.ROW + a;
            switch (wanted.sort) {
                case Sort.SELF:
                    return Type.of(a, 1, a, 0, 0);
                case Sort.READ:
                    return Type.of(a, 2, row, Kind.INT, 0);
                case Sort.WRITE:
                    return Type.of(a, 3, row, Kind.INT, a);
                case Sort.SIZE:
                    return Type.of(Kind.INT, 1, row, 0, 0);
                case Sort.NEW:
                    return Type.of(row, 1, Kind.INT, 0, 0);
                case Sort.SUM:
                case Sort.QUOTIENT:
                    return Type.of(a, 2, a, a, 0);
                case Sort.ABOVE:
                    return Type.of(Kind.TRUTH, 2, a, a, 0);
                case Sort.CAST:
                    return Type.of(row, 1, Kind.ANY_ROW, 0, 0);
                default:
                    return Type.of(a, 0, 0, 0, 0);
            }
        }

        private Type typeOfSome(Handle wanted, Type h) {
            Type second = handles.typeAt(wanted.b);
            Type third = handles.typeAt(wanted.c);
            switch (wanted.sort) {
                case Sort.FILTER:
                    return third == null ? null : typeOfFilter(h, wanted.b, third);
                case Sort.FOLD:
                    return second == null ? null : typeOfFold(h, second);
                case Sort.THEN:
                    return second == null ? null : typeOfThen(h, second);
                case Sort.GUARD:
                    return second == null || third == null ? null : typeOfGuard(h, second, third);
                case Sort.CATCH:
                    return third == null ? null : typeOfCatch(h, third);
                case Sort.LAST:
                    return second == null ? null : typeOfLast(h, second);
                default:
                    return null;
            }
        }

        private static Type typeOfFilter(Type h, int place, Type g) {
            boolean isFit = g.many == 1 && g.result == h.kind(place);
            return isFit ? h.changed(place, g.kind(0)) : null;
        }

        private static Type typeOfFold(Type h, Type g) {
            boolean isFit = g.result == h.kind(0) && g.isFirstOf(h, 0, 1);
            return isFit ? h.withoutFirst() : null;
        }

        private static Type typeOfThen(Type h, Type g) {
            boolean isFit = g.many == 1 && g.kind(0) == h.result;
            return isFit ? h.giving(g.result) : null;
        }

        private static Type typeOfGuard(Type t, Type h, Type g) {
            boolean isFit = t.result == Kind.TRUTH && t.isFirstOf(h, 0, 0) && h.isSame(g);
            return isFit ? h : null;
        }

        private static Type typeOfCatch(Type h, Type g) {
            boolean isFit = g.kind(0) == Kind.INT && g.isFirstOf(h, 1, 0) && g.result == h.result;
            return isFit ? h : null;
        }

        private static Type typeOfLast(Type h, Type g) {
            boolean takesBoth = g.kind(0) == Kind.INT && g.kind(1) == h.result;
            return takesBoth && g.isFirstOf(h, 2, 0) && g.result == h.result ? h : null;
        }
    }

    /**
     * Runs handles. What a handle is run with stands in the frame of its depth, and it writes
     * into the frame one deeper alone, so that its own parameters stay as long as it runs.
     */
    private static final class Runner {
        private static final int ANY = -1, NOTHING = 1, INDEX = 2, ZERO = 3, SIZE = 4, CAST = 5,
            NO_ROOM = 6, SPENT = 7, OWN = 20;
        private static final int STEPS_MOST = 2000;
        private static final int FAILURES_MOST = 24;
        private static final int DEPTH_MOST = 40;

        private final Handles handles;
        private final Rows rows;
        private final long[] frames;
        private int steps;
        private int failures;
        private int failedLast;
        private int failure;

        private Runner(Handles handles, Rows rows) {
            this.handles = handles;
            this.rows = rows;
            this.frames = new long[(DEPTH_MOST + 2) * PARAMETERS_MOST];
            this.failedLast = NO_HANDLE;
        }

        private void forget() {
            steps = 0;
            failures = 0;
            failedLast = NO_HANDLE;
            failure = 0;
        }

        private void hand(int depth, int place, long bits) {
            int slot = slot(depth, place);
            if (slot >= 0 && slot < frames.length) {
                frames[slot] = bits;
            }
        }

        private long taken(int depth, int place) {
            int slot = slot(depth, place);
            return slot >= 0 && slot < frames.length ? frames[slot] : 0;
        }

        private static int slot(int depth, int place) {
            boolean isThere = depth >= 0 && place >= 0 && place < PARAMETERS_MOST;
            return isThere ? depth * PARAMETERS_MOST + place : -1;
        }

        /**
         * Hands all parameters from one place on to the frame one deeper, from another place on.
         * That these may be more than are looked at there does no harm.
         */
        private void handOn(int depth, int from, int to) {
            int many = PARAMETERS_MOST - Math.max(from, to);
            for (int i = 0; i < many; i++) {
                hand(depth + 1, to + i, taken(depth, from + i));
            }
        }

        private long fail(Handle handle, int code) {
            failedLast = handle.number;
            if (failures == FAILURES_MOST) {
                failure = SPENT;
                return 0;
            }
            failures++;
            failure = code;
            return 0;
        }

        private long spent(int number) {
            failedLast = number;
            failure = SPENT;
            return 0;
        }

        /** The result of a handle run with what stands in the frame of this depth. */
        private long perform(int number, int depth) {
            Handle handle = handles.at(number);
            if (handle == null || depth > DEPTH_MOST || steps == STEPS_MOST) {
                return spent(number);
            }
            steps++;
            switch (handle.sort) {
                case Sort.SUM:
                    return sum(handle.a, taken(depth, 0), taken(depth, 1));
                case Sort.QUOTIENT:
                    return quotient(handle, taken(depth, 0), taken(depth, 1));
                case Sort.ABOVE:
                    return isAbove(handle.a, taken(depth, 0), taken(depth, 1)) ? 1 : 0;
                case Sort.DROP:
                case Sort.SWAP:
                case Sort.TWICE:
                case Sort.BIND:
                    return arrange(handle, depth);
                case Sort.FILTER:
                    return filter(handle, depth);
                case Sort.FOLD:
                    return fold(handle, depth);
                case Sort.THEN:
                    return thenOther(handle, depth);
                case Sort.GUARD:
                    return guard(handle, depth);
                case Sort.CATCH:
                    return catchFailure(handle, depth);
                case Sort.LAST:
                    return doAtLast(handle, depth);
                case Sort.LOOP:
                    return loop(handle, depth);
                case Sort.AS:
                    return widen(handle, depth);
                default:
                    return act(handle, depth);
            }
        }

        /** Those that are made of no other and reckon nothing. */
        private long act(Handle handle, int depth) {
            long first = taken(depth, 0);
            long second = taken(depth, 1);
            switch (handle.sort) {
                case Sort.CONSTANT:
                    return handle.v;
                case Sort.SELF:
                    return first;
                case Sort.READ:
                    return read(handle, first, second);
                case Sort.WRITE:
                    return write(handle, first, second, taken(depth, 2));
                case Sort.SIZE:
                    return sizeOf(handle, first);
                case Sort.NEW:
                    return newRow(handle, first);
                case Sort.FAIL:
                    return fail(handle, OWN + handle.b);
                default:
                    return rows.mayBe(Kind.ROW + handle.a, first) ? first : fail(handle, CAST);
            }
        }

        private long read(Handle handle, long number, long place) {
            Row row = rows.at(number);
            if (row == null) {
                return fail(handle, NOTHING);
            }
            return row.has(place) ? row.get(place) : fail(handle, INDEX);
        }

        private long write(Handle handle, long number, long place, long bits) {
            long was = read(handle, number, place);
            Row row = rows.at(number);
            if (failure == 0 && row != null) {
                row.set(place, bits);
            }
            return was;
        }

        private long sizeOf(Handle handle, long number) {
            Row row = rows.at(number);
            return row == null ? fail(handle, NOTHING) : row.many();
        }

        private long newRow(Handle handle, long many) {
            if (many < 0) {
                return fail(handle, SIZE);
            }
            int number = many > ITEMS_MOST ? FULL : rows.added(handle.a, (int) many);
            return number == FULL ? fail(handle, NO_ROOM) : number;
        }

        private static long sum(int kind, long x, long y) {
            switch (kind) {
                case Kind.INT:
                    return (int) (x + y);
                case Kind.FLOAT:
                    return Real.SINGLE.sumOf(x, y);
                case Kind.DOUBLE:
                    return Real.DOUBLE.sumOf(x, y);
                default:
                    return x + y;
            }
        }

        private long quotient(Handle handle, long x, long y) {
            if (handle.a == Kind.FLOAT) {
                return Real.SINGLE.quotientOf(x, y);
            }
            if (handle.a == Kind.DOUBLE) {
                return Real.DOUBLE.quotientOf(x, y);
            }
            if (y == 0) {
                return fail(handle, ZERO);
            }
            return handle.a == Kind.INT ? (int) (x / y) : x / y;
        }

        private static boolean isAbove(int kind, long x, long y) {
            switch (kind) {
                case Kind.FLOAT:
                    return Real.SINGLE.isAbove(x, y);
                case Kind.DOUBLE:
                    return Real.DOUBLE.isAbove(x, y);
                default:
                    return x > y;
            }
        }

        /** Those that run one handle once, with parameters put in another order. */
        private long arrange(Handle handle, int depth) {
            int b = handle.b;
            switch (handle.sort) {
                case Sort.DROP:
                    handOn(depth, 0, 0);
                    handOn(depth, b + 1, b);
                    break;
                case Sort.SWAP:
                    handOn(depth, 0, 0);
                    hand(depth + 1, b, taken(depth, b + 1));
                    hand(depth + 1, b + 1, taken(depth, b));
                    break;
                case Sort.TWICE:
                    handOn(depth, 0, 1);
                    hand(depth + 1, 0, taken(depth, 0));
                    break;
                default:
                    handOn(depth, 0, 1);
                    hand(depth + 1, 0, handle.v);
                    break;
            }
            return perform(handle.a, depth + 1);
        }

        private long filter(Handle handle, int depth) {
            hand(depth + 1, 0, taken(depth, handle.b));
            long gave = perform(handle.c, depth + 1);
            if (failure != 0) {
                return 0;
            }
            handOn(depth, 0, 0);
            hand(depth + 1, handle.b, gave);
            return perform(handle.a, depth + 1);
        }

        private long fold(Handle handle, int depth) {
            handOn(depth, 0, 0);
            long gave = perform(handle.b, depth + 1);
            if (failure != 0) {
                return 0;
            }
            handOn(depth, 0, 1);
            hand(depth + 1, 0, gave);
            return perform(handle.a, depth + 1);
        }

        private long thenOther(Handle handle, int depth) {
            handOn(depth, 0, 0);
            long gave = perform(handle.a, depth + 1);
            if (failure != 0) {
                return 0;
            }
            hand(depth + 1, 0, gave);
            return perform(handle.b, depth + 1);
        }

        private long guard(Handle handle, int depth) {
            handOn(depth, 0, 0);
            long isTrue = perform(handle.a, depth + 1);
            if (failure != 0) {
                return 0;
            }
            // What t was run with still stands there, since t wrote deeper alone.
            return perform(isTrue != 0 ? handle.b : handle.c, depth + 1);
        }

        private long catchFailure(Handle handle, int depth) {
            handOn(depth, 0, 0);
            long gave = perform(handle.a, depth + 1);
            int code = failure;
            if (code == 0 || code == SPENT || handle.b != ANY && handle.b != code) {
                return gave;
            }
            failure = 0;
            handOn(depth, 0, 1);
            hand(depth + 1, 0, code);
            return perform(handle.c, depth + 1);
        }

        private long doAtLast(Handle handle, int depth) {
            handOn(depth, 0, 0);
            long gave = perform(handle.a, depth + 1);
            int code = failure;
            if (code == SPENT) {
                return 0;
            }
            failure = 0;
            handOn(depth, 0, 2);
            hand(depth + 1, 0, code);
            hand(depth + 1, 1, code == 0 ? gave : Kind.nothing(handle.type.result));
            long atLast = perform(handle.b, depth + 1);
            if (failure == 0) {
                failure = code;
            }
            return atLast;
        }

        private long loop(Handle handle, int depth) {
            // Each time is a step at least, so that no run goes round more often than it has steps.
            long times = Math.min(taken(depth, 0), STEPS_MOST + 1);
            long gave = taken(depth, 1);
            for (int i = 0; i < times && failure == 0; i++) {
                handOn(depth, 0, 0);
                hand(depth + 1, 0, gave);
                hand(depth + 1, 1, i);
                gave = perform(handle.a, depth + 1);
            }
            return gave;
        }

        private long widen(Handle handle, int depth) {
            Type inner = handles.typeAt(handle.a);
            if (inner == null) {
                return spent(handle.number);
            }
            Type outer = handle.type;
            for (int place = 0; place < outer.many; place++) {
                long bits = taken(depth, place);
                hand(depth + 1, place, Kind.widened(outer.kind(place), inner.kind(place), bits));
            }
            long gave = perform(handle.a, depth + 1);
            return failure != 0 ? 0 : Kind.widened(inner.result, outer.result, gave);
        }
    }
}
