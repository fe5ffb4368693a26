/** Counts the answers that are not due; a test ends with its end(). */
final class Checks {
    private static final int SHOWN_MOST = 40;

    private int right = 0;
    private int wrong = 0;

    void due(String call, long got, long want) {
        if (got == want) {
            right++;
            return;
        }
        wrong++;
        if (wrong <= SHOWN_MOST) {
            System.out.println("  " + call + " answered " + got + ", due is " + want);
        }
    }

    void holds(String what, boolean isSo) {
        due(what, isSo ? 1 : 0, 1);
    }

    boolean isAnyWrong() {
        return wrong > 0;
    }

    void end(String test) {
        System.out.println(test + ": " + right + " as due, " + wrong + " not");
        if (wrong > 0) {
            System.exit(1);
        }
    }
}
