import java.util.Arrays;

/**
 * Term 2, which parameters go where: from none to all four, at the first place, between, and at the
 * last one. Each parameter is an int of its own, so that what comes out tells where it came from.
 */
public final class HandedOnTest {
    private static final Checks CHECKS = new Checks();
    private static final int INT = Bench.INT;
    private static final int[] KINDS = {INT, INT, INT, INT};
    private static final long[] NUMBERS = {101, 202, 303, 404};

    public static void main(String[] args) {
        drop();
        swap();
        twice();
        bind();
        filter();
        fold();
        then();
        guard();
        catches();
        last();
        lastOfFailures();
        loop();
        as();
        CHECKS.end("HandedOnTest");
    }

    private static Bench bench(String sentence) {
        return new Bench(CHECKS, sentence);
    }

    /** Of n ints, that at one place. */
    private static int pick(Bench b, int place, int n) {
        int made = b.make(Bench.SELF, INT);
        for (int i = 0; i < place; i++) {
            made = b.make(Bench.DROP, made, 0, INT);
        }
        for (int i = place + 1; i < n; i++) {
            made = b.make(Bench.DROP, made, i, INT);
        }
        return made;
    }

    private static long[] numbers(int n) {
        return Arrays.copyOf(NUMBERS, n);
    }

    private static void drop() {
        for (int n = 1; n <= 3; n++) {
            for (int place = 0; place <= n; place++) {
                for (int i = 0; i < n; i++) {
                    Bench b = bench("11 DROP: as h, with a PARAMETER more, which is not used");
                    int made = b.make(Bench.DROP, pick(b, i, n), place, INT);
                    b.gives(made, NUMBERS[i < place ? i : i + 1], numbers(n + 1));
                }
            }
        }
    }

    private static void swap() {
        for (int n = 2; n <= 4; n++) {
            for (int place = 0; place < n - 1; place++) {
                for (int i = 0; i < n; i++) {
                    Bench b = bench("12 SWAP: PARAMETERS b and b + 1 changed for one another");
                    int made = b.make(Bench.SWAP, pick(b, i, n), place);
                    int from = i == place ? place + 1 : i == place + 1 ? place : i;
                    b.gives(made, NUMBERS[from], numbers(n));
                }
            }
        }
    }

    private static void twice() {
        for (int n = 2; n <= 4; n++) {
            for (int i = 0; i < n; i++) {
                Bench b = bench("13 TWICE: the first two PARAMETERS of h are one");
                int made = b.make(Bench.TWICE, pick(b, i, n));
                b.gives(made, NUMBERS[Math.max(i - 1, 0)], numbers(n - 1));
            }
        }
    }

    private static void bind() {
        for (int n = 1; n <= 4; n++) {
            for (int i = 0; i < n; i++) {
                Bench b = bench("14 BIND: without the first PARAMETER of h, which is v");
                int made = b.bind(pick(b, i, n), 77);
                b.gives(made, i == 0 ? 77 : NUMBERS[i - 1], numbers(n - 1));
            }
        }
    }

    private static void filter() {
        for (int n = 1; n <= 4; n++) {
            for (int place = 0; place < n; place++) {
                for (int i = 0; i < n; i++) {
                    Bench b = bench("15 FILTER: PARAMETER b of h is the RESULT of g");
                    int more = b.bind(b.make(Bench.SUM, INT), 5000);
                    int made = b.make(Bench.FILTER, pick(b, i, n), place, more);
                    b.gives(made, NUMBERS[i] + (i == place ? 5000 : 0), numbers(n));
                }
            }
        }
    }

    private static void fold() {
        for (int n = 1; n <= 4; n++) {
            for (int m = 0; m < n; m++) {
                for (int i = 0; i < n; i++) {
                    for (int j = 0; j < Math.max(m, 1); j++) {
                        Bench b = bench("16 FOLD: g, whose PARAMETERS are the first ones behind");
                        int g = m == 0 ? b.constant(INT, 77) : pick(b, j, m);
                        int made = b.make(Bench.FOLD, pick(b, i, n), g);
                        long gave = m == 0 ? 77 : NUMBERS[j];
                        b.gives(made, i == 0 ? gave : NUMBERS[i - 1], numbers(n - 1));
                    }
                }
            }
        }
    }

    private static void then() {
        for (int n = 1; n <= 4; n++) {
            for (int i = 0; i < n; i++) {
                Bench b = bench("17 THEN: g, of one PARAMETER, of the RESULT of h");
                int more = b.bind(b.make(Bench.SUM, INT), 5000);
                int made = b.make(Bench.THEN, pick(b, i, n), more);
                b.gives(made, NUMBERS[i] + 5000, numbers(n));
            }
        }
    }

    private static void guard() {
        for (int n = 1; n <= 4; n++) {
            for (int m = 1; m <= n; m++) {
                for (int i = 0; i < n; i++) {
                    Bench b = bench("18 GUARD: t gives a truth of its first PARAMETERS");
                    int h = pick(b, i, n);
                    int g = pick(b, n - 1 - i, n);
                    // Whether the last parameter that t has is 7.
                    int above = b.make(Bench.ABOVE, INT);
                    int isSmall = b.bind(above, 8);
                    int t = isSmall;
                    for (int k = 1; k < m; k++) {
                        t = b.make(Bench.DROP, t, 0, INT);
                    }
                    int made = b.make(Bench.GUARD, t, h, g);
                    long[] numbers = numbers(n);
                    b.gives(made, numbers[n - 1 - i], numbers);
                    numbers[m - 1] = 7;
                    b.gives(made, numbers[i], numbers);
                    for (int k = 0; k < n; k++) {
                        numbers[k] = k == m - 1 ? 8 : 7;
                    }
                    b.gives(made, numbers[n - 1 - i], numbers);
                }
            }
        }
    }

    private static void catches() {
        for (int n = 0; n <= 4; n++) {
            for (int m = 1; m <= Math.min(n + 1, 4); m++) {
                for (int j = 0; j < m; j++) {
                    Bench b = bench("19 CATCH: g of the number of the FAILURE and these");
                    int fail = b.make(Bench.FAIL, INT, 6);
                    int h = b.dropping(fail, Arrays.copyOf(KINDS, n));
                    int made = b.make(Bench.CATCH, h, 26, pick(b, j, m));
                    b.gives(made, j == 0 ? 26 : NUMBERS[j - 1], numbers(n));
                    if (n > 0) {
                        int holds = b.make(Bench.CATCH, pick(b, n - 1, n), -1, pick(b, j, m));
                        b.gives(holds, NUMBERS[n - 1], numbers(n));
                    }
                }
            }
        }
    }

    private static void last() {
        for (int n = 1; n <= 4; n++) {
            for (int m = 2; m <= Math.min(n + 2, 4); m++) {
                for (int j = 0; j < m; j++) {
                    Bench b = bench("20 LAST: g of 0, what h gave, and these: its RESULT");
                    int made = b.make(Bench.LAST, pick(b, n - 1, n), pick(b, j, m));
                    long want = j == 0 ? 0 : j == 1 ? NUMBERS[n - 1] : NUMBERS[j - 2];
                    b.gives(made, want, numbers(n));
                }
            }
        }
        Bench b = bench("20 LAST: g of 0, what h gave, and these (none)");
        int constant = b.constant(INT, 77);
        b.gives(b.make(Bench.LAST, constant, pick(b, 0, 2)), 0);
        b.gives(b.make(Bench.LAST, constant, pick(b, 1, 2)), 77);
    }

    /** What g was given is what it wrote. */
    private static void lastOfFailures() {
        for (int n = 0; n <= 4; n++) {
            for (int m = 2; m <= Math.min(n + 2, 4); m++) {
                for (int j = 0; j < m; j++) {
                    Bench b = bench("20 LAST: If h FAILS: g of that number, 0, and these");
                    b.row(INT, 55);
                    int writes = b.bind(b.bind(b.make(Bench.WRITE, INT), 0), 0);
                    int fail = b.make(Bench.FAIL, INT, 6);
                    int h = b.dropping(fail, Arrays.copyOf(KINDS, n));
                    int g = b.make(Bench.THEN, pick(b, j, m), writes);
                    b.fails(b.make(Bench.LAST, h, g), 26, fail, numbers(n));
                    b.items(0, j == 0 ? 26 : j == 1 ? 0 : NUMBERS[j - 2]);
                }
            }
        }
    }

    private static void loop() {
        for (int n = 2; n <= 4; n++) {
            for (int i = 0; i < n; i++) {
                for (int times = 1; times <= 3; times++) {
                    Bench b = bench("21 LOOP: h of the second one and 0, .. n times in all");
                    int made = b.make(Bench.LOOP, pick(b, i, n));
                    long[] numbers = numbers(n);
                    numbers[0] = times;
                    b.gives(made, i == 0 ? 202 : i == 1 ? times - 1 : NUMBERS[i], numbers);
                    numbers[0] = 0;
                    b.gives(made, 202, numbers);
                }
            }
        }
    }

    private static void as() {
        for (int n = 1; n <= 4; n++) {
            for (int i = 0; i < n; i++) {
                Bench b = bench("22 AS: PARAMETERS are widened to those of h");
                int h = pick(b, i, n);
                int[] kinds = Arrays.copyOf(new int[] {1, 2, 3, 1}, n);
                b.type(Bench.DOUBLE, kinds);
                int made = b.make(Bench.AS, h);
                long[] want = {-1, -2, 0xfffd, -4};
                b.gives(made, Double.doubleToLongBits(want[i]), Arrays.copyOf(
                    new long[] {-1, -2, -3, -4}, n));
            }
        }
    }
}
