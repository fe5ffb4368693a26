/** Promises 1 to 5: a new object, row, put, item, size. */
public final class RowsTest {
    private static final Checks CHECKS = new Checks();

    public static void main(String[] args) {
        newObject();
        rowNumbersAndBounds();
        rowsAreFull();
        itemsByBits();
        itemsThatAreNotThere();
        CHECKS.end("RowsTest");
    }

    private static void newObject() {
        ScoreHandles x = new ScoreHandles();
        CHECKS.due("new count(0)", x.count(0), 0);
        CHECKS.due("new count(1)", x.count(1), 0);
        CHECKS.due("new count(2)", x.count(2), 0);
        CHECKS.due("new value()", x.value(), 0);
        CHECKS.due("new size(0)", x.size(0), -1);
        CHECKS.due("new item(0, 0)", x.item(0, 0), 0);
        CHECKS.due("new told(0, 0)", x.told(0, 0), -1);
        CHECKS.due("new run(0)", x.run(0, true), -1);
        CHECKS.due("new last(0)", x.last(0), 0);
        CHECKS.due("new last(1)", x.last(1), 0);
        CHECKS.due("new last(2)", x.last(2), -1);
        // The type at hand has no parameters and kind 4: it is that of a constant int.
        CHECKS.due("make constant", x.make(0, 4, 0, 0, 9), 0);
        CHECKS.due("new type fits", x.fits(0), 2);
        CHECKS.due("run constant", x.run(0, true), 1);
        CHECKS.due("value", x.value(), 9);
        // The numbers given are 0, all four.
        CHECKS.due("make self", x.make(1, 5, 0, 0, 0), 1);
        CHECKS.due("drop 1", x.make(11, 1, 0, 5, 0), 2);
        CHECKS.due("drop 2", x.make(11, 2, 0, 5, 0), 3);
        CHECKS.due("drop 3", x.make(11, 3, 0, 5, 0), 4);
        for (int n = 1; n <= 4; n++) {
            CHECKS.due("type", x.type(5, n, 5, 5, 5, 5), 1);
            CHECKS.due("run", x.run(n, true), 1);
            CHECKS.due("number " + (n - 1) + " of a new object", x.value(), 0);
        }
        ScoreHandles y = new ScoreHandles();
        CHECKS.due("another is apart", y.count(1), 0);
    }

    private static void rowNumbersAndBounds() {
        ScoreHandles x = new ScoreHandles();
        for (int lane = 0; lane < 8; lane++) {
            CHECKS.due("row(" + lane + ")", x.row(lane, lane + 1), lane);
            CHECKS.due("size", x.size(lane), lane + 1);
        }
        CHECKS.due("row of none", x.row(3, 0), 8);
        CHECKS.due("size of none", x.size(8), 0);
        int[] lanes = {-1, 8, 16, Integer.MIN_VALUE, Integer.MAX_VALUE};
        for (int lane : lanes) {
            CHECKS.due("row(" + lane + ", 1)", x.row(lane, 1), -1);
        }
        int[] sizes = {-1, 9, Integer.MIN_VALUE, Integer.MAX_VALUE};
        for (int n : sizes) {
            CHECKS.due("row(4, " + n + ")", x.row(4, n), -1);
        }
        int[] numbers = {-1, 9, 16, Integer.MIN_VALUE, Integer.MAX_VALUE};
        for (int row : numbers) {
            CHECKS.due("size(" + row + ")", x.size(row), -1);
            CHECKS.due("put(" + row + ")", x.put(row, 0, 1), -1);
            CHECKS.due("item(" + row + ")", x.item(row, 0), 0);
        }
        CHECKS.due("count(0)", x.count(0), 9);
    }

    private static void rowsAreFull() {
        ScoreHandles x = new ScoreHandles();
        for (int i = 0; i < 16; i++) {
            CHECKS.due("row " + i, x.row(4, 8), i);
        }
        CHECKS.due("17th row", x.row(4, 0), -2);
        CHECKS.due("17th row of no lane", x.row(8, 0), -1);
        CHECKS.due("17th row too long", x.row(4, 9), -1);
        CHECKS.due("17th row below 0", x.row(4, -1), -1);
        CHECKS.due("count(0)", x.count(0), 16);
        CHECKS.due("size(16)", x.size(16), -1);
        CHECKS.due("put in the last", x.put(15, 7, 5), 1);
        CHECKS.due("item of the last", x.item(15, 7), 5);
        CHECKS.due("item of another", x.item(14, 7), 0);
    }

    private static void itemsByBits() {
        ScoreHandles x = new ScoreHandles();
        for (int lane = 0; lane < 8; lane++) {
            x.row(lane, 2);
            CHECKS.due("item at first", x.item(lane, 1), 0);
        }
        put(x, 0, 0, 0);
        put(x, 0, 2, 1);
        put(x, 0, 1L << 40, 1);
        put(x, 0, -1, 1);
        put(x, 1, 257, 1);
        put(x, 1, 128, -128);
        put(x, 1, -129, 127);
        put(x, 2, 0x12345L, 0x2345);
        put(x, 2, 0x8000, -32768);
        put(x, 3, -1, 65535);
        put(x, 3, 0x18000, 0x8000);
        put(x, 4, 1L << 31, Integer.MIN_VALUE);
        put(x, 4, (1L << 32) + 7, 7);
        put(x, 5, Long.MIN_VALUE, Long.MIN_VALUE);
        put(x, 6, 0xbf800000L, (int) 0xbf800000L);
        put(x, 6, 0x80000000L, Integer.MIN_VALUE);
        put(x, 6, 0x7fc00001L, 0x7fc00000);
        put(x, 6, 0xff800001L, 0x7fc00000);
        put(x, 6, 0xff800000L, (int) 0xff800000L);
        put(x, 6, 0x7f800000L, 0x7f800000);
        put(x, 6, 0x5_0000_0001L, 1);
        put(x, 7, 0x7ff0000000000001L, 0x7ff8000000000000L);
        put(x, 7, -1, 0x7ff8000000000000L);
        put(x, 7, Long.MIN_VALUE, Long.MIN_VALUE);
        put(x, 7, 0xfff0000000000000L, 0xfff0000000000000L);
        put(x, 7, 0x7ff0000000000000L, 0x7ff0000000000000L);
    }

    private static void put(ScoreHandles x, int row, long bits, long want) {
        CHECKS.due("put(" + row + ", 1, " + bits + ")", x.put(row, 1, bits), 1);
        CHECKS.due("item(" + row + ", 1) of " + bits, x.item(row, 1), want);
        CHECKS.due("item(" + row + ", 0)", x.item(row, 0), 0);
    }

    private static void itemsThatAreNotThere() {
        ScoreHandles x = new ScoreHandles();
        x.row(5, 3);
        x.row(5, 0);
        CHECKS.due("put", x.put(0, 2, 77), 1);
        int[] places = {-1, 3, 8, Integer.MIN_VALUE, Integer.MAX_VALUE};
        for (int place : places) {
            CHECKS.due("put(0, " + place + ")", x.put(0, place, 1), -1);
            CHECKS.due("item(0, " + place + ")", x.item(0, place), 0);
        }
        CHECKS.due("put in none", x.put(1, 0, 1), -1);
        CHECKS.due("item of none", x.item(1, 0), 0);
        CHECKS.due("item stays", x.item(0, 2), 77);
        CHECKS.due("size stays", x.size(0), 3);
    }
}
