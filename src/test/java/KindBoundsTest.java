/** Term 1, KINDS, at its bounds: each method holds the class to the sentence that it names. */
public final class KindBoundsTest {
    private static final Checks CHECKS = new Checks();
    private static final int MOST = Integer.MAX_VALUE;
    private static final int LEAST = Integer.MIN_VALUE;
    private static final long ABOVE_INTS = 1L << 32;
    private static final int NO_FLOAT = 0x7fc00000;
    private static final long NO_DOUBLE = 0x7ff8000000000000L;
    /** Row k of this table: the kinds that kind k goes to beside itself. */
    private static final int[][] GOES = {{}, {2, 4, 5, 6, 7}, {4, 5, 6, 7}, {4, 5, 6, 7},
        {5, 6, 7}, {6, 7}, {7}, {}, {16}, {16}, {16}, {16}, {16}, {16}, {16}, {16}, {}};
    /** BITS of one, of each kind that is no row. */
    private static final long[] ONE = {1, 1, 1, 1, 1, 1, 0x3f800000L, 0x3ff0000000000000L};

    public static void main(String[] args) {
        kinds();
        truths();
        wholes();
        wholesWrapAround();
        floats();
        doubles();
        rowsByNumber();
        rowsMost();
        rowsMostByNew();
        lanes();
        itemsMany();
        itemsAtFirst();
        kindsGo();
        valuesGo();
        floatsGo();
        wholesGo();
        typesMany();
        typesGoByMany();
        typesGoByEach();
        resultsGoBackwards();
        CHECKS.end("KindBoundsTest");
    }

    private static Bench bench(String sentence) {
        return new Bench(CHECKS, sentence);
    }

    private static boolean goes(int from, int to) {
        boolean is = from == to;
        for (int kind : GOES[from]) {
            is = is || kind == to;
        }
        return is;
    }

    private static void kinds() {
        String sentence = "0 truth .. 7 double; 8 to 15 ROWS of these; 16 ROWS of any LANE";
        for (int kind = 0; kind <= 16; kind++) {
            Bench b = bench(sentence);
            b.is(b.make(Bench.SELF, kind), kind, kind);
            b.type(kind, kind);
            b.due("fits", b.x.fits(0), 2);
        }
        Bench b = bench(sentence);
        for (int kind : new int[] {-1, 17, LEAST, MOST}) {
            b.bad(Bench.SELF, kind, 0, 0);
            b.due("type", b.x.type(kind, 0, 0, 0, 0, 0), -1);
            b.due("type", b.x.type(4, 1, kind, 0, 0, 0), -1);
        }
    }

    /** From BITS to BITS by every way that there is. */
    private static void through(String sentence, int kind, long bits, long want) {
        Bench b = bench(sentence);
        if (kind < Bench.ROWS) {
            b.items(b.row(kind, bits, 0), want, 0);
            int write = b.make(Bench.WRITE, kind);
            b.gives(write, 0, 0, 1, bits);
            b.items(0, want, want);
            b.gives(b.make(Bench.READ, kind), want, 0, 0);
        }
        b.gives(b.constant(kind, bits), want);
        int self = b.make(Bench.SELF, kind);
        b.gives(self, want, bits);
        b.gives(b.bind(self, bits), want);
        b.type(kind, kind);
        b.given(bits);
        b.runs(self, false, 1);
        b.due("value()", b.x.value(), want);
    }

    private static void truths() {
        String sentence = "a truth is whether they are not 0; of a truth 1, 0";
        through(sentence, Bench.TRUTH, 0, 0);
        for (long bits : new long[] {-1, 1, 2, 256, 65536, 1L << 31, ABOVE_INTS, Long.MIN_VALUE,
            Long.MAX_VALUE, -2}) {
            through(sentence, Bench.TRUTH, bits, 1);
        }
    }

    /** The least, the most, and those beside them on either side. */
    private static void wholes() {
        String sentence = "BITS of 1 to 5 itself";
        long[] least = {-128, -32768, 0, LEAST, Long.MIN_VALUE};
        long[] most = {127, 32767, 65535, MOST, Long.MAX_VALUE};
        for (int kind = Bench.BYTE; kind <= Bench.LONG; kind++) {
            long low = least[kind - 1];
            long high = most[kind - 1];
            for (long bits : new long[] {low, low + 1, high - 1, high, 0, 1}) {
                through(sentence, kind, bits, bits);
            }
            // One below the least is the most, one above the most the least.
            through(sentence, kind, low - 1, high);
            through(sentence, kind, high + 1, low);
        }
    }

    private static void wholesWrapAround() {
        String sentence = "1 to 7 as many of the lowest ones as they have";
        int[] width = {8, 16, 16, 32, 64};
        for (int kind = Bench.BYTE; kind < Bench.LONG; kind++) {
            long round = 1L << width[kind - 1];
            through(sentence, kind, round, 0);
            through(sentence, kind, round + 1, 1);
            through(sentence, kind, -round, 0);
            through(sentence, kind, round - 1, kind == Bench.CHAR ? round - 1 : -1);
            through(sentence, kind, Long.MIN_VALUE, 0);
            through(sentence, kind, Long.MIN_VALUE + 5, 5);
            through(sentence, kind, 1L << width[kind - 1] - 1,
                kind == Bench.CHAR ? 0x8000 : -1L << width[kind - 1] - 1);
        }
        through(sentence, Bench.CHAR, -1, 65535);
        through(sentence, Bench.LONG, ABOVE_INTS, ABOVE_INTS);
        through(sentence, Bench.FLOAT, ABOVE_INTS, 0);
        through(sentence, Bench.FLOAT, ABOVE_INTS + 0x3f800000L, 0x3f800000);
        through(sentence, Bench.FLOAT, -1L << 32, 0);
    }

    private static void floats() {
        String sentence = "of a float its 32 bits (as an int), of what is no number 0x7fc00000";
        int[] numbers = {0, 1, 0x007fffff, 0x00800000, 0x3f800000, 0x7f7fffff, 0x7f800000};
        for (int bits : numbers) {
            through(sentence, Bench.FLOAT, bits, bits);
            // With its sign it is an int below 0, whether it was given as one or not.
            through(sentence, Bench.FLOAT, bits | LEAST, bits | LEAST);
            through(sentence, Bench.FLOAT, (bits | LEAST) & 0xffffffffL, bits | LEAST);
        }
        for (int bits : new int[] {0x7f800001, 0x7fbfffff, 0x7fc00000, 0x7fc00001, MOST}) {
            through(sentence, Bench.FLOAT, bits, NO_FLOAT);
            through(sentence, Bench.FLOAT, bits | LEAST, NO_FLOAT);
        }
        // What is no number above the 32 bits is one all the same.
        through(sentence, Bench.FLOAT, NO_DOUBLE, 0);
    }

    private static void doubles() {
        String sentence = "of a double its 64 (of what is no number 0x7ff8000000000000)";
        long[] numbers = {0, 1, 0x000fffffffffffffL, 0x0010000000000000L, 0x3ff0000000000000L,
            0x7fefffffffffffffL, 0x7ff0000000000000L};
        for (long bits : numbers) {
            through(sentence, Bench.DOUBLE, bits, bits);
            through(sentence, Bench.DOUBLE, bits | Long.MIN_VALUE, bits | Long.MIN_VALUE);
        }
        long[] none = {0x7ff0000000000001L, 0x7ff7ffffffffffffL, 0x7ff8000000000000L,
            0x7ff8000000000001L, Long.MAX_VALUE};
        for (long bits : none) {
            through(sentence, Bench.DOUBLE, bits, NO_DOUBLE);
            through(sentence, Bench.DOUBLE, bits | Long.MIN_VALUE, NO_DOUBLE);
        }
        through(sentence, Bench.DOUBLE, NO_FLOAT, NO_FLOAT);
    }

    private static void rowsByNumber() {
        String sentence = "of a ROW its number, -1 none; from BITS: that of this number";
        for (int kind = Bench.ROWS; kind <= Bench.ANY; kind++) {
            Bench b = bench(sentence);
            int lane = kind == Bench.ANY ? Bench.BYTE : kind - Bench.ROWS;
            for (int row = 0; row < 16; row++) {
                b.row(lane, row % 2, row / 2 % 2, row / 4 % 2, row / 8);
            }
            int self = b.make(Bench.SELF, kind);
            for (int row : new int[] {-1, 0, 1, 14, 15}) {
                b.gives(b.constant(kind, row), row);
                b.gives(self, row, row);
                b.gives(b.bind(self, row), row);
            }
            b.typeOf(self);
            for (long row : new long[] {-2, 16, ABOVE_INTS, ABOVE_INTS - 1, Long.MIN_VALUE,
                Long.MAX_VALUE, -1L << 32, MOST, LEAST, 255, 256}) {
                b.bad(Bench.CONSTANT, kind, 0, 0, row);
                b.bad(Bench.BIND, self, 0, 0, row);
                b.given(row);
                b.runs(self, true, -1);
            }
        }
        Bench b = bench(sentence);
        for (int row = 0; row < 16; row++) {
            b.row(Bench.INT, 100 + row);
        }
        int read = b.make(Bench.READ, Bench.INT);
        for (int row = 0; row < 16; row++) {
            b.gives(read, 100 + row, row, 0);
        }
    }

    private static void rowsMost() {
        Bench b = bench("ROWS 0, 1, .. (16 at most)");
        for (int row = 0; row < 16; row++) {
            b.due("size(" + row + ")", b.x.size(row), -1);
            b.due("row", b.x.row(row % 8, 1), row);
            b.due("count(0)", b.x.count(0), row + 1);
            b.due("size(" + row + ")", b.x.size(row), 1);
        }
        for (int i = 0; i < 3; i++) {
            b.due("row behind 16", b.x.row(4, i), -2);
            b.due("count(0)", b.x.count(0), 16);
            b.due("size(16)", b.x.size(16), -1);
        }
    }

    private static void rowsMostByNew() {
        Bench b = bench("ROWS 0, 1, .. (16 at most)");
        int made = b.make(Bench.NEW, 4);
        for (int row = 0; row < 16; row += 2) {
            b.gives(made, row, 2);
            b.due("row", b.x.row(7, 3), row + 1);
            b.due("size", b.x.size(row), 2);
            b.due("size", b.x.size(row + 1), 3);
        }
        b.fails(made, 6, made, 2);
        b.due("row behind 16", b.x.row(4, 1), -2);
        b.due("count(0)", b.x.count(0), 16);
    }

    private static void lanes() {
        Bench b = bench("ROWS have a LANE (0 .. 7, a KIND)");
        for (int lane : new int[] {-1, 8, 15, 16, LEAST, MOST}) {
            b.due("row(" + lane + ", 1)", b.x.row(lane, 1), -1);
            for (int sort : new int[] {Bench.READ, Bench.WRITE, Bench.SIZE, Bench.NEW,
                Bench.CAST}) {
                b.bad(sort, lane, 0, 0);
            }
        }
        for (int lane = 0; lane <= 7; lane++) {
            b.due("row(" + lane + ", 1)", b.x.row(lane, 1), lane);
        }
        for (int lane = 0; lane <= 7; lane++) {
            Bench each = bench("ROWS have a LANE (0 .. 7, a KIND)");
            int cast = each.make(Bench.CAST, lane);
            for (int row = 0; row <= 7; row++) {
                each.row(row, 0);
                if (row == lane) {
                    each.gives(cast, row, row);
                } else {
                    each.fails(cast, 5, cast, row);
                }
            }
        }
    }

    private static void itemsMany() {
        String sentence = "0 to 8 ITEMS";
        for (int many = 0; many <= 8; many++) {
            Bench b = bench(sentence);
            b.due("row", b.x.row(4, many), 0);
            b.due("size", b.x.size(0), many);
            b.gives(b.make(Bench.NEW, 4), 1, many);
            b.due("size", b.x.size(1), many);
            for (int row = 0; row < 2; row++) {
                for (int i = -1; i <= 9; i++) {
                    boolean isThere = i >= 0 && i < many;
                    b.due("put at " + i + " of " + many, b.x.put(row, i, 9), isThere ? 1 : -1);
                    b.due("item at " + i + " of " + many, b.x.item(row, i), isThere ? 9 : 0);
                }
            }
        }
        Bench b = bench(sentence);
        for (int many : new int[] {-1, 9, 16, LEAST, MOST}) {
            b.due("row of " + many, b.x.row(4, many), -1);
        }
        b.due("count(0)", b.x.count(0), 0);
    }

    private static void itemsAtFirst() {
        for (int lane = 0; lane <= 7; lane++) {
            Bench b = bench("ITEMS (0 at first)");
            b.x.row(lane, 8);
            b.items(0, 0, 0, 0, 0, 0, 0, 0, 0);
            b.gives(b.make(Bench.NEW, lane), 1, 8);
            b.items(1, 0, 0, 0, 0, 0, 0, 0, 0);
            b.gives(b.make(Bench.READ, lane), 0, 1, 7);
        }
    }

    private static void kindsGo() {
        String sentence = "KINDS GO: each to itself; 1 to 2, 4, 5, 6, 7; .. 8 to 15 to 16";
        for (int from = 0; from <= 16; from++) {
            for (int to = 0; to <= 16; to++) {
                Bench b = bench(sentence + " (" + from + " to " + to + ")");
                boolean isSo = goes(from, to);
                int takes = b.shape(Bench.INT, to);
                b.type(Bench.INT, from);
                b.due("fits", b.x.fits(takes), from == to ? 2 : isSo ? 1 : 0);
                b.given(-1);
                b.runs(takes, false, isSo ? 1 : -4);
                b.runs(takes, true, from == to ? 1 : -4);
                b.answers(isSo ? b.x.count(1) : -3, Bench.AS, takes, 0, 0, 0);
                int none = b.shape(from);
                b.type(to);
                b.due("fits", b.x.fits(none), from == to ? 2 : isSo ? 1 : 0);
                b.runs(none, false, isSo ? 1 : -4);
                b.answers(isSo ? b.x.count(1) : -3, Bench.AS, none, 0, 0, 0);
            }
        }
    }

    private static void valuesGo() {
        String sentence = "KINDS GO (as the machine widens)";
        for (int from = 0; from < Bench.ROWS; from++) {
            for (int to = from; to < Bench.ROWS; to++) {
                if (goes(from, to)) {
                    Bench b = bench(sentence + " (" + from + " to " + to + ")");
                    int self = b.make(Bench.SELF, to);
                    b.type(to, from);
                    b.gives(b.make(Bench.AS, self), ONE[to], ONE[from]);
                    b.runs(self, false, 1);
                    b.due("value()", b.x.value(), ONE[to]);
                }
            }
        }
        // A char has no sign, a byte and a short have one.
        Bench b = bench(sentence);
        int self = b.make(Bench.SELF, Bench.INT);
        b.given(0xffff);
        long[] want = {-1, -1, 0xffff};
        for (int kind = Bench.BYTE; kind <= Bench.CHAR; kind++) {
            b.type(Bench.INT, kind);
            b.runs(self, false, 1);
            b.due("value() of kind " + kind, b.x.value(), want[kind - 1]);
        }
    }

    private static void floatsGo() {
        Bench b = bench("KINDS GO: 6 to 7 (as the machine widens)");
        int self = b.make(Bench.SELF, Bench.DOUBLE);
        b.type(Bench.DOUBLE, Bench.FLOAT);
        float[] floats = {0, Float.MIN_VALUE, 3 * Float.MIN_VALUE, 0x0.fffffep-126f,
            Float.MIN_NORMAL, 1, 0x1.000002p0f, Float.MAX_VALUE, Float.POSITIVE_INFINITY};
        for (float each : floats) {
            for (float signed : new float[] {each, -each}) {
                b.given(Float.floatToIntBits(signed));
                b.runs(self, false, 1);
                b.due("value() of " + signed, b.x.value(), Double.doubleToLongBits(signed));
            }
        }
        b.given(NO_FLOAT);
        b.runs(self, false, 1);
        b.due("value() of what is no number", b.x.value(), NO_DOUBLE);
    }

    /** The wholes about those that have no float, no double of their own any more. */
    private static void wholesGo() {
        for (int places : new int[] {24, 25, 53, 54, 62}) {
            Bench b = bench("KINDS GO: 5 to 6, 7 (as the machine widens)");
            int floats = b.make(Bench.SELF, Bench.FLOAT);
            int doubles = b.make(Bench.SELF, Bench.DOUBLE);
            for (long less = -3; less <= 6; less++) {
                long whole = (1L << places) + less;
                for (long signed : new long[] {whole, -whole}) {
                    b.given(signed);
                    b.type(Bench.FLOAT, Bench.LONG);
                    b.runs(floats, false, 1);
                    b.due("value() of " + signed, b.x.value(),
                        Float.floatToIntBits((float) signed));
                    b.type(Bench.DOUBLE, Bench.LONG);
                    b.runs(doubles, false, 1);
                    b.due("value() of " + signed, b.x.value(),
                        Double.doubleToLongBits((double) signed));
                }
            }
        }
    }

    private static void typesMany() {
        Bench b = bench("A TYPE: 0 to 4 PARAMETERS, numbered from 0 on");
        for (int n = -1; n <= 5; n++) {
            b.due("type of " + n, b.x.type(4, n, 0, 1, 2, 3), n >= 0 && n <= 4 ? 1 : -1);
        }
        for (int n : Bench.FAR) {
            b.due("type of " + n, b.x.type(4, n, 0, 1, 2, 3), -1);
        }
        int four = b.shape(Bench.INT, 0, 1, 2, 3);
        b.is(four, Bench.INT, 0, 1, 2, 3);
        // The last that was no BAD is at hand.
        b.due("fits", b.x.fits(four), 2);
        b.misfit(Bench.DROP, four, 0, 4);
    }

    private static void typesGoByMany() {
        Bench b = bench("One TYPE GOES to another one with as many PARAMETERS");
        int[] shapes = new int[5];
        int[][] kinds = {{}, {4}, {4, 4}, {4, 4, 4}, {4, 4, 4, 4}};
        for (int n = 0; n <= 4; n++) {
            shapes[n] = b.shape(Bench.INT, kinds[n]);
        }
        for (int n = 0; n <= 4; n++) {
            b.type(Bench.INT, kinds[n]);
            for (int m = 0; m <= 4; m++) {
                b.due(n + " to " + m, b.x.fits(shapes[m]), n == m ? 2 : 0);
                b.runs(shapes[m], false, n == m ? 1 : -4);
            }
            b.type(Bench.LONG, kinds[n]);
            for (int m = 0; m <= 4; m++) {
                b.due(n + " to " + m, b.x.fits(shapes[m]), n == m ? 1 : 0);
                b.runs(shapes[m], false, n == m ? 1 : -4);
            }
        }
    }

    /** One of the parameters narrower, the same, wider, all others the same. */
    private static void typesGoByEach() {
        for (int n = 1; n <= 4; n++) {
            for (int place = 0; place < n; place++) {
                Bench b = bench("if each PARAMETER of the first one goes to that of the second");
                int[] kinds = {4, 4, 4, 4};
                int[] wanted = java.util.Arrays.copyOf(kinds, n);
                int shape = b.shape(Bench.INT, wanted);
                int[] fits = {0, 1, 1, 1, 2, 0, 0, 0};
                for (int kind = 0; kind <= 7; kind++) {
                    wanted[place] = kind;
                    b.type(Bench.INT, wanted);
                    b.due("fits " + n + ", " + place + ", " + kind, b.x.fits(shape), fits[kind]);
                }
            }
        }
    }

    private static void resultsGoBackwards() {
        Bench b = bench("and the RESULT of the second one to that of the first one");
        int shape = b.shape(Bench.INT, Bench.INT);
        int[] fits = {0, 0, 0, 0, 2, 1, 1, 1, 0};
        for (int kind = 0; kind <= 8; kind++) {
            b.type(kind, Bench.INT);
            b.due("fits " + kind, b.x.fits(shape), fits[kind]);
            b.type(kind, Bench.BYTE);
            b.due("fits " + kind + " of a byte", b.x.fits(shape), fits[kind] == 0 ? 0 : 1);
            b.type(kind, Bench.LONG);
            b.due("fits " + kind + " of a long", b.x.fits(shape), 0);
        }
    }
}
