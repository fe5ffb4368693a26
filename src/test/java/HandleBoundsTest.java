import java.util.Arrays;

/** Term 2, HANDLES, at its bounds: each method holds the class to the sentence that it names. */
public final class HandleBoundsTest {
    private static final Checks CHECKS = new Checks();
    private static final int INT = Bench.INT;
    private static final int[] INTS_OF_FOUR = {INT, INT, INT, INT};

    public static void main(String[] args) {
        handlesMost();
        sorts();
        elders();
        constants();
        constantsOfRows();
        kindsAlone();
        reckoned();
        failing();
        typesAlone();
        dropPlaces();
        dropKinds();
        fifthParameter();
        swapPlaces();
        twice();
        bindMany();
        bindOfRows();
        filterPlaces();
        filterKinds();
        foldMany();
        foldKinds();
        then();
        guardMany();
        guardKinds();
        catchCodes();
        catchMany();
        catchKinds();
        lastMany();
        lastKinds();
        loopMany();
        loopKinds();
        as();
        keptOnceByNumbers();
        keptOnceByBits();
        keptOnceByTypeAtHand();
        keptOnceWhenFull();
        CHECKS.end("HandleBoundsTest");
    }

    private static Bench bench(String sentence) {
        return new Bench(CHECKS, sentence);
    }

    private static int[] ints(int many) {
        return Arrays.copyOf(INTS_OF_FOUR, many);
    }

    /** The same kinds, but at one place another one. */
    private static int[] but(int[] kinds, int place, int kind) {
        int[] others = kinds.clone();
        others[place] = kind;
        return others;
    }

    private static void handlesMost() {
        Bench b = bench("HANDLES 0, 1, .. (32 at most)");
        for (int i = 0; i < 32; i++) {
            b.due("told(" + i + ", 0)", b.x.told(i, 0), -1);
            b.due("made", b.constant(INT, i), i);
            b.due("told(" + i + ", 0)", b.x.told(i, 0), 0);
        }
        b.refused(-2, Bench.CONSTANT, INT, 0, 0, 32);
        b.refused(-2, Bench.SELF, INT, 0, 0, 0);
        b.refused(-2, Bench.DROP, 31, 0, INT, 0);
        b.due("told(32, 0)", b.x.told(32, 0), -1);
        b.gives(31, 31);
        // BAD and MISFIT are named ahead of FULL.
        b.bad(Bench.CONSTANT, 17, 0, 0);
        b.bad(Bench.DROP, 32, 0, INT);
        b.bad(Bench.DROP, 31, 1, INT);
        b.misfit(Bench.THEN, 31, 31, 0);
    }

    private static void sorts() {
        for (int sort : new int[] {-1, 23, 24, 32, 255, 256, Integer.MIN_VALUE,
            Integer.MAX_VALUE}) {
            Bench b = bench("SORT 0 CONSTANT .. 22 AS");
            b.constant(Bench.TRUTH, 1);
            b.bad(sort, 0, 0, 0);
            b.bad(sort, 4, 0, 0);
        }
        Bench b = bench("SORT 0 CONSTANT .. 22 AS");
        b.constant(INT, 0);
        b.make(Bench.AS, 0);
    }

    /** One int by itself, two ints by their sum, a truth of none, in this order or another. */
    private static final int[][] ELDERS = {{Bench.SELF, INT}, {Bench.SUM, INT},
        {Bench.CONSTANT, Bench.TRUTH}};
    /** A sort, which of a, b, c are elder ones (bits), and which: by their numbers in ELDERS. */
    private static final int[][] MADE_OF = {{Bench.DROP, 1, 0, 0, 1}, {Bench.SWAP, 1, 1, 0, 0},
        {Bench.TWICE, 1, 1, 0, 0}, {Bench.BIND, 1, 0, 0, 0}, {Bench.FILTER, 5, 1, 0, 0},
        {Bench.FOLD, 3, 1, 0, 0}, {Bench.THEN, 3, 1, 0, 0}, {Bench.GUARD, 7, 2, 0, 0},
        {Bench.CATCH, 5, 0, -1, 1}, {Bench.LAST, 3, 0, 1, 0}, {Bench.LOOP, 1, 1, 0, 0},
        {Bench.AS, 1, 0, 0, 0}};

    private static void elders() {
        for (int[] made : MADE_OF) {
            for (int first = 0; first < ELDERS.length; first++) {
                elders(made, first);
            }
        }
    }

    private static void elders(int[] made, int first) {
        Bench b = bench("made of elder HANDLES (by their numbers)");
        int[] numbers = new int[ELDERS.length];
        for (int i = 0; i < ELDERS.length; i++) {
            int which = (first + i) % ELDERS.length;
            numbers[which] = b.make(ELDERS[which][0], ELDERS[which][1]);
        }
        b.type(INT, INT);
        int[] abc = new int[3];
        for (int i = 0; i < 3; i++) {
            abc[i] = (made[1] >> i & 1) == 1 ? numbers[made[2 + i]] : made[2 + i];
        }
        for (int i = 0; i < 3; i++) {
            for (int none : new int[] {-1, -2, 3, 4, 31, 32, 33, Integer.MIN_VALUE,
                Integer.MAX_VALUE}) {
                if ((made[1] >> i & 1) == 1) {
                    int[] others = but(abc, i, none);
                    b.bad(made[0], others[0], others[1], others[2]);
                }
            }
        }
        b.due("made", b.make(made[0], abc[0], abc[1], abc[2]), 3);
    }

    private static void constants() {
        Bench b = bench("0 CONSTANT a, v: > KIND a; 1 SELF a: a > a");
        for (int kind : new int[] {0, 1, 7, 8, 15, 16}) {
            b.is(b.constant(kind, kind < 8 ? 1 : -1), kind);
            b.is(b.make(Bench.SELF, kind), kind, kind);
        }
        for (int kind : new int[] {-1, 17, Integer.MIN_VALUE, Integer.MAX_VALUE}) {
            b.bad(Bench.CONSTANT, kind, 0, 0, -1);
            b.bad(Bench.CONSTANT, kind, 0, 0, 0);
            b.bad(Bench.SELF, kind, 0, 0);
        }
    }

    private static void constantsOfRows() {
        Bench b = bench("A ROW: -1, or one of that LANE, of any of 16");
        for (int kind = 8; kind <= 16; kind++) {
            b.bad(Bench.CONSTANT, kind, 0, 0, 0);
            b.constant(kind, -1);
        }
        b.row(Bench.INT);
        b.row(Bench.LONG);
        for (int kind = 8; kind <= 16; kind++) {
            boolean isAny = kind == 16;
            for (int row = -2; row <= 3; row++) {
                boolean isOf = row == -1 || row == 0 && kind == 12 || row == 1 && kind == 13
                    || isAny && (row == 0 || row == 1);
                if (isOf) {
                    b.gives(b.constant(kind, row), row);
                } else {
                    b.bad(Bench.CONSTANT, kind, 0, 0, row);
                }
            }
        }
    }

    private static void kindsAlone() {
        int[] sorts = {Bench.READ, Bench.WRITE, Bench.SIZE, Bench.NEW, Bench.CAST};
        Bench b = bench("2 READ a (a LANE) .. 10 CAST a (a LANE)");
        for (int sort : sorts) {
            for (int lane : new int[] {0, 1, 6, 7}) {
                b.make(sort, lane);
            }
            for (int lane : new int[] {-1, 8, 16, Integer.MIN_VALUE, Integer.MAX_VALUE}) {
                b.bad(sort, lane, 0, 0);
            }
        }
    }

    private static void reckoned() {
        Bench b = bench("6 SUM a (4 .. 7), 7 QUOTIENT a (4 .. 7), 8 ABOVE a (4 .. 7)");
        for (int sort = Bench.SUM; sort <= Bench.ABOVE; sort++) {
            for (int kind : new int[] {-1, 0, 1, 2, 3, 8, 9, 12, 16, Integer.MIN_VALUE,
                Integer.MAX_VALUE}) {
                b.bad(sort, kind, 0, 0);
            }
            for (int kind = 4; kind <= 7; kind++) {
                b.is(b.make(sort, kind), sort == Bench.ABOVE ? 0 : kind, kind, kind);
            }
        }
    }

    private static void failing() {
        Bench b = bench("9 FAIL a, b (0 .. 9): > KIND a");
        for (int code = 0; code <= 9; code++) {
            int made = b.make(Bench.FAIL, INT, code);
            b.is(made, INT);
            b.fails(made, 20 + code, made);
        }
        for (int code : new int[] {-1, 10, 20, 29, Integer.MIN_VALUE, Integer.MAX_VALUE}) {
            b.bad(Bench.FAIL, INT, code, 0);
        }
        for (int kind : new int[] {-1, 17}) {
            b.bad(Bench.FAIL, kind, 0, 0);
            b.bad(Bench.FAIL, kind, 9, 0);
        }
        for (int kind : new int[] {0, 16}) {
            b.is(b.make(Bench.FAIL, kind, 9), kind);
        }
    }

    private static void typesAlone() {
        for (int lane = 0; lane <= 7; lane++) {
            Bench b = bench("READ: 8 + a, int > a .. CAST: 16 > 8 + a");
            b.is(b.make(Bench.READ, lane), lane, 8 + lane, INT);
            b.is(b.make(Bench.WRITE, lane), lane, 8 + lane, INT, lane);
            b.is(b.make(Bench.SIZE, lane), INT, 8 + lane);
            b.is(b.make(Bench.NEW, lane), 8 + lane, INT);
            b.is(b.make(Bench.CAST, lane), 8 + lane, 16);
        }
    }

    /** Of one that has n parameters of kinds 0, 1, .. a place from -1 to 6. */
    private static void dropPlaces() {
        for (int n = 0; n <= 3; n++) {
            for (int place = -1; place <= 6; place++) {
                Bench b = bench("11 DROP: ahead of place b (0 to behind the last)");
                int[] kinds = Arrays.copyOf(new int[] {0, 1, 2}, n);
                int h = b.shape(INT, kinds);
                if (place < 0 || place > n) {
                    b.bad(Bench.DROP, h, place, 9);
                    continue;
                }
                int[] longer = new int[n + 1];
                for (int i = 0; i <= n; i++) {
                    longer[i] = i < place ? i : i == place ? 9 : i - 1;
                }
                b.is(b.make(Bench.DROP, h, place, 9), INT, longer);
            }
            Bench b = bench("11 DROP: ahead of place b (0 to behind the last)");
            int h = b.shape(INT, ints(n));
            for (int place : Bench.FAR) {
                b.bad(Bench.DROP, h, place, INT);
            }
        }
    }

    private static void dropKinds() {
        Bench b = bench("11 DROP: a PARAMETER more, of KIND c");
        int h = b.shape(INT);
        for (int kind : new int[] {0, 1, 7, 8, 15, 16}) {
            b.is(b.make(Bench.DROP, h, 0, kind), INT, kind);
        }
        for (int kind : new int[] {-1, 17, Integer.MIN_VALUE, Integer.MAX_VALUE}) {
            b.bad(Bench.DROP, h, 0, kind);
        }
    }

    private static void fifthParameter() {
        Bench b = bench("MISFIT: also a fifth PARAMETER");
        int three = b.shape(INT, ints(3));
        int four = b.make(Bench.DROP, three, 3, INT);
        b.is(four, INT, ints(4));
        for (int place = 0; place <= 4; place++) {
            b.misfit(Bench.DROP, four, place, INT);
        }
        // BAD is named ahead of it.
        b.bad(Bench.DROP, four, -1, INT);
        b.bad(Bench.DROP, four, 5, INT);
        b.bad(Bench.DROP, four, 0, 17);
    }

    private static void swapPlaces() {
        for (int n = 0; n <= 4; n++) {
            Bench b = bench("12 SWAP: PARAMETERS b and b + 1 changed for one another");
            int[] kinds = Arrays.copyOf(new int[] {0, 1, 2, 3}, n);
            int h = b.shape(INT, kinds);
            for (int place = -2; place <= 6; place++) {
                if (place < 0 || place + 1 >= n) {
                    b.bad(Bench.SWAP, h, place, 0);
                    continue;
                }
                int[] swapped = but(but(kinds, place, place + 1), place + 1, place);
                b.is(b.make(Bench.SWAP, h, place), INT, swapped);
            }
            for (int place : Bench.FAR) {
                b.bad(Bench.SWAP, h, place, 0);
            }
        }
    }

    private static void twice() {
        for (int n = 0; n <= 4; n++) {
            Bench b = bench("13 TWICE: the first two PARAMETERS of h, of one KIND, are one");
            int h = b.shape(INT, ints(n));
            if (n < 2) {
                b.misfit(Bench.TWICE, h, 0, 0);
            } else {
                b.is(b.make(Bench.TWICE, h), INT, ints(n - 1));
            }
        }
        int[][] others = {{1, 4}, {4, 1}, {4, 5}, {3, 4}, {8, 16}, {16, 8}, {4, 5, 5}, {5, 4, 4},
            {4, 5, 4, 5}};
        for (int[] kinds : others) {
            Bench b = bench("13 TWICE: of one KIND");
            b.misfit(Bench.TWICE, b.shape(INT, kinds), 0, 0);
        }
        Bench b = bench("13 TWICE: of one KIND");
        b.is(b.make(Bench.TWICE, b.shape(INT, 9, 9, 5, 9)), INT, 9, 5, 9);
    }

    private static void bindMany() {
        Bench b = bench("14 BIND: without the first PARAMETER of h");
        int h = b.shape(INT, 3, 2, 1, 0);
        for (int n = 3; n >= 0; n--) {
            h = b.bind(h, 1);
            b.is(h, INT, Arrays.copyOfRange(new int[] {3, 2, 1, 0}, 4 - n, 4));
        }
        b.misfit(Bench.BIND, h, 0, 0);
        b.refused(-3, Bench.BIND, b.shape(INT), 0, 0, -1);
    }

    private static void bindOfRows() {
        for (int kind = 8; kind <= 16; kind++) {
            Bench b = bench("14 BIND: which is v (a ROW as at 0)");
            int self = b.make(Bench.SELF, kind);
            b.bad(Bench.BIND, self, 0, 0, 0);
            b.gives(b.bind(self, -1), -1);
            b.row(Bench.INT);
            b.row(Bench.LONG);
            for (int row = -2; row <= 3; row++) {
                boolean isOf = row == -1 || row == 0 && kind == 12 || row == 1 && kind == 13
                    || kind == 16 && (row == 0 || row == 1);
                if (isOf) {
                    b.gives(b.bind(self, row), row);
                } else {
                    b.bad(Bench.BIND, self, 0, 0, row);
                }
            }
        }
        Bench b = bench("14 BIND: which is v (a ROW as at 0)");
        // The second is a row, but it is the first that is bound.
        int second = b.shape(INT, INT, 12);
        b.bind(second, 99);
        b.bad(Bench.BIND, b.bind(second, 99), 0, 0, 0);
    }

    private static void filterPlaces() {
        for (int n = 0; n <= 4; n++) {
            Bench b = bench("15 FILTER: PARAMETER b of h is the RESULT of g");
            int h = b.shape(INT, ints(n));
            int g = b.shape(INT, Bench.CHAR);
            for (int place = -2; place <= 6; place++) {
                if (place < 0 || place >= n) {
                    b.bad(Bench.FILTER, h, place, g);
                } else {
                    b.is(b.make(Bench.FILTER, h, place, g), INT,
                        but(ints(n), place, Bench.CHAR));
                }
            }
            for (int place : Bench.FAR) {
                b.bad(Bench.FILTER, h, place, g);
            }
        }
    }

    private static void filterKinds() {
        Bench b = bench("15 FILTER: g, which has one PARAMETER, that stands there instead");
        int h = b.shape(Bench.LONG, INT, Bench.LONG);
        for (int m = 0; m <= 4; m++) {
            int g = b.shape(INT, ints(m));
            if (m == 1) {
                b.is(b.make(Bench.FILTER, h, 0, g), Bench.LONG, INT, Bench.LONG);
            } else {
                b.misfit(Bench.FILTER, h, 0, g);
            }
        }
        // KINDS that go to the parameter's, or that it goes to, are not it.
        for (int kind : new int[] {Bench.SHORT, Bench.CHAR, Bench.LONG, Bench.FLOAT}) {
            b.misfit(Bench.FILTER, h, 0, b.shape(kind, INT));
        }
        b.misfit(Bench.FILTER, h, 1, b.shape(INT, INT));
        b.make(Bench.FILTER, h, 1, b.shape(Bench.LONG, INT));
    }

    private static void foldMany() {
        for (int n = 0; n <= 4; n++) {
            for (int m = 0; m <= 4; m++) {
                Bench b = bench("16 FOLD: g, whose PARAMETERS are the first ones behind it");
                int h = b.shape(INT, ints(n));
                int g = b.shape(INT, ints(m));
                if (m + 1 <= n) {
                    b.is(b.make(Bench.FOLD, h, g), INT, ints(n - 1));
                } else {
                    b.misfit(Bench.FOLD, h, g, 0);
                }
            }
        }
    }

    private static void foldKinds() {
        Bench b = bench("16 FOLD: the first PARAMETER of h is the RESULT of g");
        int h = b.shape(Bench.DOUBLE, INT, 3, 2, 1);
        b.is(b.make(Bench.FOLD, h, b.shape(INT)), Bench.DOUBLE, 3, 2, 1);
        b.is(b.make(Bench.FOLD, h, b.shape(INT, 3, 2, 1)), Bench.DOUBLE, 3, 2, 1);
        for (int kind : new int[] {0, 3, 5, 7}) {
            b.misfit(Bench.FOLD, h, b.shape(kind), 0);
        }
        int[] behind = {3, 2, 1};
        for (int place = 0; place < 3; place++) {
            for (int kind : new int[] {0, 4}) {
                Bench other = bench("16 FOLD: whose PARAMETERS are the first ones behind it");
                int same = other.shape(Bench.DOUBLE, INT, 3, 2, 1);
                other.misfit(Bench.FOLD, same, other.shape(INT, but(behind, place, kind)), 0);
            }
        }
        // The parameter that is g's own is not among them.
        b.misfit(Bench.FOLD, h, b.shape(INT, INT), 0);
    }

    private static void then() {
        Bench b = bench("17 THEN: g, of one PARAMETER, of the RESULT of h");
        int h = b.shape(INT, 0, 1, 2, 3);
        for (int m = 0; m <= 4; m++) {
            int g = b.shape(Bench.ANY, ints(m));
            if (m == 1) {
                b.is(b.make(Bench.THEN, h, g), Bench.ANY, 0, 1, 2, 3);
            } else {
                b.misfit(Bench.THEN, h, g, 0);
            }
        }
        for (int kind : new int[] {0, 3, 5, 7}) {
            b.misfit(Bench.THEN, h, b.shape(INT, kind), 0);
        }
        b.is(b.make(Bench.THEN, b.shape(INT), b.shape(INT, INT)), INT);
    }

    private static void guardMany() {
        for (int n = 0; n <= 4; n++) {
            for (int m = 0; m <= 4; m++) {
                Bench b = bench("18 GUARD: t gives a truth of its first PARAMETERS (all t has)");
                int h = b.shape(INT, ints(n));
                int t = b.shape(Bench.TRUTH, ints(m));
                if (m <= n) {
                    b.is(b.make(Bench.GUARD, t, h, h), INT, ints(n));
                } else {
                    b.misfit(Bench.GUARD, t, h, h);
                }
            }
        }
    }

    private static void guardKinds() {
        int[] kinds = {0, 1, 2, 3};
        for (int place = 0; place < 4; place++) {
            Bench b = bench("18 GUARD: h and g of one TYPE, t of its first PARAMETERS");
            int h = b.shape(INT, kinds);
            int t = b.shape(Bench.TRUTH, kinds);
            int wider = b.shape(INT, but(kinds, place, INT));
            b.misfit(Bench.GUARD, t, h, wider);
            b.misfit(Bench.GUARD, t, wider, h);
            b.misfit(Bench.GUARD, b.shape(Bench.TRUTH, but(kinds, place, INT)), h, h);
            b.is(b.make(Bench.GUARD, t, h, h), INT, kinds);
        }
        Bench b = bench("18 GUARD: h and g of one TYPE");
        int h = b.shape(INT, INT);
        int t = b.shape(Bench.TRUTH);
        for (int kind : new int[] {0, 3, 5}) {
            b.misfit(Bench.GUARD, t, h, b.shape(kind, INT));
            b.misfit(Bench.GUARD, t, b.shape(kind, INT), h);
        }
        for (int n : new int[] {0, 2}) {
            b.misfit(Bench.GUARD, t, h, b.shape(INT, ints(n)));
            b.misfit(Bench.GUARD, t, b.shape(INT, ints(n)), h);
        }
        for (int kind : new int[] {1, 4, 8}) {
            b.misfit(Bench.GUARD, b.shape(kind), h, h);
        }
    }

    private static void catchCodes() {
        Bench b = bench("19 CATCH (b -1, 1 .. 6, 20 .. 29)");
        int h = b.shape(INT);
        int g = b.make(Bench.SELF, INT);
        int made = 0;
        for (int code = -3; code <= 33; code++) {
            boolean isTold = code == -1 || code >= 1 && code <= 6 || code >= 20 && code <= 29;
            if (isTold) {
                b.due("catch by " + code, b.make(Bench.CATCH, h, code, g), 2 + made);
                made++;
            } else {
                b.bad(Bench.CATCH, h, code, g);
            }
        }
        for (int code : Bench.FAR) {
            b.bad(Bench.CATCH, h, code, g);
        }
        b.bad(Bench.CATCH, h, 7, 1);
    }

    private static void catchMany() {
        for (int n = 0; n <= 4; n++) {
            for (int m = 0; m <= 4; m++) {
                Bench b = bench("19 CATCH: g, whose PARAMETERS are an int and the first of h");
                int h = b.shape(Bench.LONG, ints(n));
                int g = b.shape(Bench.LONG, ints(m));
                if (m >= 1 && m - 1 <= n) {
                    b.is(b.make(Bench.CATCH, h, -1, g), Bench.LONG, ints(n));
                } else {
                    b.misfit(Bench.CATCH, h, -1, g);
                }
            }
        }
    }

    private static void catchKinds() {
        int[] kinds = {0, 1, 2, 3};
        int[] its = {INT, 0, 1, 2};
        for (int place = 0; place < 4; place++) {
            for (int kind : new int[] {3, 5}) {
                Bench b = bench("19 CATCH: an int and the first ones of h");
                int h = b.shape(INT, kinds);
                b.misfit(Bench.CATCH, h, -1, b.shape(INT, but(its, place, kind)));
                b.is(b.make(Bench.CATCH, h, -1, b.shape(INT, its)), INT, kinds);
            }
        }
        Bench b = bench("19 CATCH: its RESULT is of h's KIND");
        int h = b.shape(INT);
        for (int kind : new int[] {0, 3, 5}) {
            b.misfit(Bench.CATCH, h, -1, b.shape(kind, INT));
        }
        b.make(Bench.CATCH, h, -1, b.shape(INT, INT));
    }

    private static void lastMany() {
        for (int n = 0; n <= 4; n++) {
            for (int m = 0; m <= 4; m++) {
                Bench b = bench("20 LAST: g has PARAMETERS int, one of h's RESULT, first ones");
                int h = b.shape(INT, ints(n));
                int g = b.shape(INT, ints(m));
                if (m >= 2 && m - 2 <= n) {
                    b.is(b.make(Bench.LAST, h, g), INT, ints(n));
                } else {
                    b.misfit(Bench.LAST, h, g, 0);
                }
            }
        }
    }

    private static void lastKinds() {
        int[] kinds = {0, 1, 2, 3};
        int[] its = {INT, Bench.LONG, 0, 1};
        for (int place = 0; place < 4; place++) {
            for (int kind : new int[] {3, 6}) {
                Bench b = bench("20 LAST: int, of the KIND of h's RESULT, the first ones of h");
                int h = b.shape(Bench.LONG, kinds);
                b.misfit(Bench.LAST, h, b.shape(Bench.LONG, but(its, place, kind)), 0);
                b.is(b.make(Bench.LAST, h, b.shape(Bench.LONG, its)), Bench.LONG, kinds);
            }
        }
        Bench b = bench("20 LAST: and that RESULT");
        int h = b.shape(Bench.LONG);
        for (int kind : new int[] {0, 4, 6}) {
            b.misfit(Bench.LAST, h, b.shape(kind, INT, Bench.LONG), 0);
        }
        b.make(Bench.LAST, h, b.shape(Bench.LONG, INT, Bench.LONG));
    }

    private static void loopMany() {
        for (int n = 0; n <= 4; n++) {
            Bench b = bench("21 LOOP h: k, int, and others > k");
            int[] kinds = Arrays.copyOf(new int[] {5, 4, 3, 2}, n);
            int h = b.shape(Bench.LONG, kinds);
            if (n < 2) {
                b.misfit(Bench.LOOP, h, 0, 0);
            } else {
                b.is(b.make(Bench.LOOP, h), Bench.LONG, but(but(kinds, 0, 4), 1, 5));
            }
        }
    }

    private static void loopKinds() {
        for (int kind = 0; kind <= 16; kind += 4) {
            Bench b = bench("21 LOOP h: k, int, and others > k");
            b.is(b.make(Bench.LOOP, b.shape(kind, kind, INT)), kind, INT, kind);
            b.misfit(Bench.LOOP, b.shape(kind, kind, Bench.CHAR), 0, 0);
            b.misfit(Bench.LOOP, b.shape(kind, kind, Bench.LONG), 0, 0);
        }
        Bench other = bench("21 LOOP h: k, int, and others > k");
        for (int kind : new int[] {3, 5}) {
            other.misfit(Bench.LOOP, other.shape(INT, kind, INT), 0, 0);
            other.misfit(Bench.LOOP, other.shape(kind, INT, INT), 0, 0);
        }
        other.misfit(Bench.LOOP, other.shape(Bench.ANY, Bench.INTS, INT), 0, 0);
    }

    private static void as() {
        Bench b = bench("22 AS: THE TYPE AT HAND, which goes to that of h");
        int h = b.shape(INT, INT, INT);
        int[][] going = {{4, 4, 4}, {5, 4, 4}, {4, 3, 4}, {4, 4, 3}, {7, 1, 2}};
        for (int[] each : going) {
            b.type(each[0], each[1], each[2]);
            b.is(b.make(Bench.AS, h), each[0], each[1], each[2]);
        }
        int[][] others = {{3, 4, 4}, {4, 5, 4}, {4, 4, 5}, {4, 0, 4}, {0, 4, 4}, {16, 4, 4}};
        for (int[] each : others) {
            b.type(each[0], each[1], each[2]);
            b.misfit(Bench.AS, h, 0, 0);
        }
        b.type(INT, INT);
        b.misfit(Bench.AS, h, 0, 0);
        b.type(INT, INT, INT, INT);
        b.misfit(Bench.AS, h, 0, 0);
        b.bad(Bench.AS, b.x.count(1), 0, 0);
    }

    /** Each number that a sort has told apart by one, each that it has not looked past. */
    private static void keptOnceByNumbers() {
        for (int[] made : MADE_OF) {
            if (made[0] != Bench.AS) {
                keptOnce(made);
            }
        }
        int[][] alone = {{0, 1, 2}, {1, 1, 2}, {2, 1, 2}, {3, 1, 2}, {4, 1, 2}, {5, 1, 2},
            {6, 5, 6}, {7, 5, 6}, {8, 5, 6}, {10, 1, 2}};
        for (int[] each : alone) {
            Bench b = bench("One that is made just as one that is there is that one");
            int first = b.make(each[0], each[1]);
            int second = b.make(each[0], each[2]);
            b.due("of another number", second, first + 1);
            b.due("of the same", b.make(each[0], each[1]), first);
            b.due("b, c are none of its", b.make(each[0], each[2], 7, -7), second);
        }
        Bench b = bench("One that is made just as one that is there is that one");
        b.due("fail", b.make(Bench.FAIL, 4, 3), 0);
        b.due("fail of another code", b.make(Bench.FAIL, 4, 2), 1);
        b.due("fail of another code", b.make(Bench.FAIL, 4, 4), 2);
        b.due("fail of another kind", b.make(Bench.FAIL, 5, 3), 3);
        b.due("the same", b.make(Bench.FAIL, 4, 3, 9, 9), 0);
        b.due("self is no fail", b.make(Bench.SELF, 4, 3), 4);
        b.due("v is none of SELF's", b.make(Bench.SELF, 4, 3, 0, 5), 4);
    }

    private static void keptOnce(int[] made) {
        Bench b = bench("the same SORT, numbers that it has");
        b.make(Bench.SELF, INT);
        b.make(Bench.SUM, INT);
        b.constant(Bench.TRUTH, 0);
        // Twins of these: of their types, but not made just as they are.
        int[] twins = {b.shape(INT, INT), b.shape(INT, INT, INT), b.constant(Bench.TRUTH, 1)};
        int same = b.make(made[0], made[2], made[3], made[4], 1);
        b.due("the same", b.make(made[0], made[2], made[3], made[4], 1), same);
        int has = made[0] == Bench.DROP ? 7 : made[0] == Bench.SWAP ? 3
            : made[0] == Bench.FILTER || made[0] == Bench.CATCH ? 7 : made[1];
        for (int i = 0; i < 3; i++) {
            int[] abc = {made[2], made[3], made[4]};
            if ((has >> i & 1) == 0) {
                abc[i] += 77;
                b.due("not its number", b.make(made[0], abc[0], abc[1], abc[2], 1), same);
                continue;
            }
            boolean isElder = (made[1] >> i & 1) == 1;
            if (made[0] == Bench.SWAP && !isElder) {
                continue;
            }
            abc[i] = isElder ? twins[abc[i]] : made[0] == Bench.CATCH ? 1 : abc[i] + 1;
            int many = b.x.count(1);
            b.due("another number", b.make(made[0], abc[0], abc[1], abc[2], 1), many);
        }
        int v = b.make(made[0], made[2], made[3], made[4], 2);
        b.due("v is BIND's alone", v == same ? 1 : 0, made[0] == Bench.BIND ? 0 : 1);
        if (made[0] == Bench.SWAP) {
            int h = b.shape(INT, INT, INT, INT);
            int first = b.make(Bench.SWAP, h, 0);
            b.due("another place", b.make(Bench.SWAP, h, 1), first + 1);
        }
    }

    private static void keptOnceByBits() {
        Bench b = bench("value by its BITS (257 is 1 of a byte)");
        int self = b.make(Bench.SELF, Bench.BYTE);
        int one = b.constant(Bench.BYTE, 1);
        int boundOne = b.bind(self, 1);
        for (long v : new long[] {257, -255, 65537, Long.MIN_VALUE + 1}) {
            b.due("constant of " + v, b.constant(Bench.BYTE, v), one);
            b.due("bind of " + v, b.bind(self, v), boundOne);
        }
        int many = b.x.count(1);
        b.due("constant of 256", b.constant(Bench.BYTE, 256), many);
        b.due("constant of 258", b.constant(Bench.BYTE, 258), many + 1);
        b.due("bind of 256", b.bind(self, 256), many + 2);
        b.due("bind of 258", b.bind(self, 258), many + 3);
        b.due("constant of 0", b.constant(Bench.BYTE, 0), many);
        b.due("bind of 2", b.bind(self, 2), many + 3);
        // Zeros of unlike signs are not of the same bits, what is no number always is.
        int zero = b.constant(Bench.DOUBLE, 0);
        b.due("-0.0", b.constant(Bench.DOUBLE, Long.MIN_VALUE), zero + 1);
        b.due("no number", b.constant(Bench.DOUBLE, -1), zero + 2);
        b.due("no number", b.constant(Bench.DOUBLE, Long.MAX_VALUE), zero + 2);
        b.due("infinity", b.constant(Bench.DOUBLE, 0x7ff0000000000000L), zero + 3);
        b.due("a float", b.constant(Bench.FLOAT, 0), zero + 4);
        b.due("a truth", b.constant(Bench.TRUTH, 2), zero + 5);
        b.due("the same truth", b.constant(Bench.TRUTH, -1), zero + 5);
        b.due("the other truth", b.constant(Bench.TRUTH, 0), zero + 6);
    }

    private static void keptOnceByTypeAtHand() {
        Bench b = bench("TYPE AT HAND of 22");
        int h = b.shape(INT, INT);
        b.type(INT, INT);
        int same = b.make(Bench.AS, h);
        int again = b.make(Bench.AS, h, 9, 9);
        b.due("the same", again, same);
        b.type(INT, Bench.SHORT);
        int narrow = b.make(Bench.AS, h);
        b.due("another parameter", narrow, same + 1);
        b.type(Bench.LONG, INT);
        b.due("another result", b.make(Bench.AS, h), same + 2);
        b.type(INT, INT);
        b.due("the first one", b.make(Bench.AS, h), same);
        b.type(INT, Bench.SHORT);
        b.due("the second one", b.make(Bench.AS, h), narrow);
        b.due("of another", b.make(Bench.AS, same), same + 3);
        // It is no number of any other sort.
        b.due("DROP of the same", b.make(Bench.DROP, h - 1, 0, INT), h);
    }

    private static void keptOnceWhenFull() {
        Bench b = bench("FULL: 32, and it is none of them");
        for (int i = 0; i < 30; i++) {
            b.constant(INT, i);
        }
        b.type(Bench.LONG);
        b.make(Bench.AS, 0);
        b.make(Bench.DROP, 0, 0, 3);
        b.due("the first", b.constant(INT, 0), 0);
        b.due("the 30th", b.constant(INT, 29), 29);
        b.due("the 31st", b.make(Bench.AS, 0), 30);
        b.due("the 32nd", b.make(Bench.DROP, 0, 0, 3), 31);
        b.refused(-2, Bench.CONSTANT, INT, 0, 0, 30);
        b.refused(-2, Bench.DROP, 0, 0, 4, 0);
        b.refused(-2, Bench.AS, 1, 0, 0, 0);
        b.type(Bench.DOUBLE);
        b.refused(-2, Bench.AS, 0, 0, 0, 0);
    }
}
