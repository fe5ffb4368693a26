/** Promises 6, 8, 9: type, told, fits. */
public final class TypesTest {
    private static final Checks CHECKS = new Checks();
    /** Row k of this table: which kinds kind k goes to beside itself. */
    private static final int[][] GOES = {{}, {2, 4, 5, 6, 7}, {4, 5, 6, 7}, {4, 5, 6, 7},
        {5, 6, 7}, {6, 7}, {7}, {}, {16}, {16}, {16}, {16}, {16}, {16}, {16}, {16}, {}};

    public static void main(String[] args) {
        typeBounds();
        typeThatIsBadChangesNothing();
        told();
        fitsByKinds();
        fitsByMany();
        fitsOfAs();
        CHECKS.end("TypesTest");
    }

    private static void typeBounds() {
        ScoreHandles x = new ScoreHandles();
        for (int kind = 0; kind <= 16; kind++) {
            CHECKS.due("type result " + kind, x.type(kind, 0, 0, 0, 0, 0), 1);
            CHECKS.due("type k3 " + kind, x.type(4, 4, 0, 0, 0, kind), 1);
        }
        int[] none = {-1, 17, Integer.MIN_VALUE, Integer.MAX_VALUE};
        for (int k : none) {
            CHECKS.due("type result " + k, x.type(k, 0, 0, 0, 0, 0), -1);
            CHECKS.due("type k0 " + k, x.type(4, 1, k, 0, 0, 0), -1);
            CHECKS.due("type k1 " + k, x.type(4, 2, 0, k, 0, 0), -1);
            CHECKS.due("type k2 " + k, x.type(4, 3, 0, 0, k, 0), -1);
            CHECKS.due("type k3 " + k, x.type(4, 4, 0, 0, 0, k), -1);
            CHECKS.due("type beyond 0 " + k, x.type(4, 0, k, k, k, k), 1);
            CHECKS.due("type beyond 1 " + k, x.type(4, 1, 0, k, k, k), 1);
            CHECKS.due("type beyond 2 " + k, x.type(4, 2, 0, 0, k, k), 1);
            CHECKS.due("type beyond 3 " + k, x.type(4, 3, 0, 0, 0, k), 1);
        }
        for (int n : new int[] {-1, 5, Integer.MIN_VALUE, Integer.MAX_VALUE}) {
            CHECKS.due("type n " + n, x.type(4, n, 0, 0, 0, 0), -1);
        }
    }

    private static void typeThatIsBadChangesNothing() {
        ScoreHandles x = new ScoreHandles();
        x.make(1, 5, 0, 0, 0);
        x.type(5, 1, 5, 0, 0, 0);
        x.type(17, 1, 5, 0, 0, 0);
        x.type(5, 5, 5, 0, 0, 0);
        x.type(4, 2, 4, 17, 0, 0);
        CHECKS.due("fits after bad types", x.fits(0), 2);
    }

    private static void told() {
        ScoreHandles x = new ScoreHandles();
        x.make(3, 2, 0, 0, 0);
        x.make(11, 0, 0, 16, 0);
        x.make(0, 6, 0, 0, 0);
        told(x, 0, 3, 3, 2, 10, 4, 2, -1);
        told(x, 1, 11, 4, 2, 16, 10, 4, 2);
        told(x, 2, 0, 0, 6, -1, -1, -1, -1);
        for (int handle : new int[] {-1, 3, 32, Integer.MIN_VALUE, Integer.MAX_VALUE}) {
            for (int what = -1; what <= 7; what++) {
                CHECKS.due("told(" + handle + ", " + what + ")", x.told(handle, what), -1);
            }
            CHECKS.due("fits(" + handle + ")", x.fits(handle), -1);
        }
        for (int what : new int[] {-1, 7, 8, Integer.MIN_VALUE, Integer.MAX_VALUE}) {
            CHECKS.due("told(1, " + what + ")", x.told(1, what), -1);
        }
    }

    private static void told(ScoreHandles x, int handle, int... want) {
        for (int what = 0; what < want.length; what++) {
            CHECKS.due("told(" + handle + ", " + what + ")", x.told(handle, what), want[what]);
        }
    }

    private static boolean goes(int from, int to) {
        boolean is = from == to;
        for (int kind : GOES[from]) {
            is = is || kind == to;
        }
        return is;
    }

    /** Each kind to each, as a parameter forwards, as a result backwards. */
    private static void fitsByKinds() {
        for (int kind = 0; kind <= 16; kind++) {
            ScoreHandles x = new ScoreHandles();
            x.make(0, kind, 0, 0, kind >= 8 ? -1 : 0);
            x.make(9, 4, 0, 0, 0);
            x.make(11, 1, 0, kind, 0);
            x.make(11, 2, 0, 4, 0);
            for (int other = 0; other <= 16; other++) {
                int asResult = kind == other ? 2 : goes(kind, other) ? 1 : 0;
                x.type(other, 0, 0, 0, 0, 0);
                CHECKS.due("result " + kind + " to " + other, x.fits(0), asResult);
                int asParameter = kind == other ? 2 : goes(other, kind) ? 1 : 0;
                x.type(4, 1, other, 0, 0, 0);
                CHECKS.due("parameter " + other + " to " + kind, x.fits(2), asParameter);
                x.type(4, 2, 4, other, 0, 0);
                CHECKS.due("parameter 1 " + other + " to " + kind, x.fits(3), asParameter);
            }
        }
    }

    private static void fitsByMany() {
        ScoreHandles x = new ScoreHandles();
        x.make(0, 4, 0, 0, 0);
        for (int n = 1; n <= 4; n++) {
            x.make(11, n - 1, 0, 4, 0);
        }
        for (int n = 0; n <= 4; n++) {
            x.type(4, n, 4, 4, 4, 4);
            for (int handle = 0; handle <= 4; handle++) {
                CHECKS.due(n + " to " + handle, x.fits(handle), n == handle ? 2 : 0);
            }
            x.type(5, n, 4, 4, 4, 4);
            CHECKS.due("wider result", x.fits(n), 1);
            x.type(3, n, 4, 4, 4, 4);
            CHECKS.due("other result", x.fits(n), 0);
        }
        x.type(4, 4, 1, 2, 3, 4);
        CHECKS.due("all but one narrower", x.fits(4), 1);
        x.type(4, 4, 1, 2, 3, 5);
        CHECKS.due("one wider", x.fits(4), 0);
    }

    private static void fitsOfAs() {
        ScoreHandles x = new ScoreHandles();
        x.make(1, 4, 0, 0, 0);
        x.type(6, 1, 2, 0, 0, 0);
        CHECKS.due("make as", x.make(22, 0, 0, 0, 0), 1);
        CHECKS.due("fits as", x.fits(1), 2);
        CHECKS.due("fits self", x.fits(0), 1);
        x.type(4, 1, 4, 0, 0, 0);
        CHECKS.due("fits as, type of self", x.fits(1), 0);
        x.type(7, 1, 1, 0, 0, 0);
        CHECKS.due("fits as, further on", x.fits(1), 1);
        told(x, 1, 22, 1, 6, 2, -1);
    }
}
