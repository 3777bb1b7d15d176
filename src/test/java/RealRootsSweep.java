/**
 * Every call with every mixture of arguments that lie at bounds: the refusal that the document's order wants, no
 * refusal where none is due, nothing changed by one, and no exception but newton's.
 */
public final class RealRootsSweep {
    private static final long UNKNOWN = -4000000000000000000L;
    private static final long OUTSIDE = -4000000000000000001L;
    private static final long TAKEN = 5555555555555555555L;
    private static final long THROWN = 7777777777777777777L;
    private static final int LOW = Integer.MIN_VALUE;
    private static final int HIGH = Integer.MAX_VALUE;
    private static final int MOST_CALLS = 512;
    /** Polynomials of every object here: ZERO, 3, x^2 - 2, x (x^2 - 1) (x^2 - 4). */
    private static final int[][] TERMS = {{}, {3}, {-2, 0, 1}, {0, 4, 0, -5, 0, 1}};
    private static final int[] ROOTS = {0, 0, 2, 5};
    private static final int[] POLYNOMIALS = {LOW, -1, 0, 1, 2, 3, 4, 11, 12, HIGH};
    private static final int[] NUMBERS = {LOW, -1, 0, 1, 2, 4, 5, 6, HIGH};
    private static final int[] VALUES = {LOW, -1001, -1000, -1, 0, 1, 1000, 1001, HIGH};
    private static final int[] UPPER = {LOW, -1000001, -1000000, -1, 0, 1, 1000000, 1000001, HIGH};
    private static final int[] LOWER = {LOW, -1, 0, 1, 2, 1000000, 1000001, HIGH};

    private static RealRoots x = new RealRoots();
    private static int calls = 0;
    private static int wrong = 0;

    /** A new object with the polynomials above and so many ZEROS behind them. */
    private static void renew(int more) {
        x = new RealRoots();
        calls = 0;
        for (int[] terms : TERMS) {
            int p = x.polynomial();
            calls++;
            for (int k = 0; k < terms.length; k++) {
                x.set(p, k, terms[k]);
                calls++;
            }
        }
        for (int k = 0; k < more; k++) {
            x.polynomial();
            calls++;
        }
    }

    /** Looks whether the object is still as it was made, before it is used up, and takes a new one. */
    private static void renewInTime(int more) {
        if (calls + 100 > MOST_CALLS) {
            check(more);
            renew(more);
        }
    }

    private static void check(int more) {
        tell("count", x.count(), TERMS.length + more);
        tell("all", x.all(), 7);
        for (int p = 0; p < TERMS.length; p++) {
            for (int k = 0; k < 6; k++) {
                tell("coefficient", x.coefficient(p, k), k < TERMS[p].length ? TERMS[p][k] : 0, p, k);
            }
        }
        if (calls > MOST_CALLS) {
            wrong++;
            System.out.println("the test itself calls one object " + calls + " times");
        }
    }

    private static void tell(String call, long got, long want, int... with) {
        calls++;
        if (want == TAKEN ? got < 0 : got != want) {
            wrong++;
            if (wrong <= 20) {
                System.out.println(call + java.util.Arrays.toString(with) + " answered " + got + ", due is "
                    + (want == TAKEN ? "no refusal" : "" + want));
            }
        }
    }

    private static boolean unknown(int p) {
        return p < 0 || p > 3;
    }

    private static boolean noRoot(int p, int i) {
        return unknown(p) || i < 0 || i >= ROOTS[p];
    }

    private static boolean outside(int n, int d) {
        return n < -1000000 || n > 1000000 || d < 1 || d > 1000000;
    }

    private static boolean answersOfSign(long got) {
        return got == -1 || got == 0 || got == 1;
    }

    private static void sweepOne() {
        for (int p : POLYNOMIALS) {
            renewInTime(0);
            boolean zero = p == 0;
            tell("degree", x.degree(p), unknown(p) ? -9 : zero ? -1 : p == 1 ? 0 : p == 2 ? 2 : 5, p);
            tell("roots", x.roots(p), unknown(p) ? -1 : zero ? -3 : ROOTS[p], p);
            tell("row", x.row(p), unknown(p) ? -1 : zero ? -3 : p == 1 ? 1 : p == 2 ? 3 : 6, p);
            tell("bound", x.bound(p), unknown(p) ? -1 : zero ? -3 : p == 1 ? 0 : 2, p);
            tell("count", x.count(), 4);
            for (int power : NUMBERS) {
                boolean there = !unknown(p) && power >= 0 && power < TERMS[p].length;
                tell("coefficient", x.coefficient(p, power), there ? TERMS[p][power] : 0, p, power);
            }
        }
    }

    private static void sweepSet() {
        for (int p : POLYNOMIALS) {
            for (int power : NUMBERS) {
                for (int v : VALUES) {
                    renewInTime(0);
                    boolean out = power < 0 || power > 5 || v < -1000 || v > 1000;
                    int was = unknown(p) || out || power >= TERMS[p].length ? 0 : TERMS[p][power];
                    long got = x.set(p, power, v);
                    tell("set", got, unknown(p) ? -1 : out ? -2 : 1000 + was, p, power, v);
                    if (got >= 0) {
                        tell("set", x.set(p, power, was), 1000 + v, p, power, was);
                    }
                }
            }
        }
    }

    private static void sweepMake(int more) {
        renew(more);
        for (int kind : new int[] {LOW, -1, 0, 1, 2, 3, 4, 5, 6, 7, 8, 9, 10, HIGH}) {
            for (int a = -1; a <= 12; a++) {
                for (int b : new int[] {LOW, -1001, -1000, -1, 0, 1, 2, 3, 4, 11, 12, 1000, 1001, HIGH}) {
                    long got = x.make(kind, a, b);
                    tell("make", got, dueOfMake(kind, a, b, TERMS.length + more), kind, a, b);
                    if (got >= 0) {
                        renew(more);
                    } else {
                        renewInTime(more);
                    }
                }
            }
        }
        check(more);
    }

    private static long dueOfMake(int kind, int a, int b, int held) {
        boolean two = kind == 0 || kind == 1 || kind == 2 || kind == 4;
        boolean none = a < 0 || a >= held || two && (b < 0 || b >= held);
        if (kind < 0 || kind > 9 || none) {
            return -1;
        }
        if ((kind == 6 || kind == 9) && (b < -1000 || b > 1000)) {
            return -2;
        }
        if ((kind == 5 || kind == 8) && (a == 0 || a >= TERMS.length)) {
            return -3;
        }
        return held == 12 || beyond(kind, a, b) ? -4 : held;
    }

    /** Of the polynomials here: which products, moves and stretchings are too great. */
    private static boolean beyond(int kind, int a, int b) {
        if (kind == 2) {
            return a == 2 && b == 3 || a == 3 && (b == 2 || b == 3);
        }
        if (kind == 6) {
            // the number before x^0 is b^2 - 2; the one before x is 274 for 3, 1044 for 4
            return a == 2 && Math.abs(b) > 31 || a == 3 && Math.abs(b) > 3;
        }
        return kind == 9 && (a == 2 && Math.abs(b) > 31 || a == 3 && Math.abs(b) > 3);
    }

    private static void sweepRoots() {
        for (int p : POLYNOMIALS) {
            for (int i : NUMBERS) {
                boolean none = noRoot(p, i);
                renewInTime(0);
                tell("times", x.times(p, i), none ? -1 : 1, p, i);
                // -2, the root of 2 below 0, -1, 0, 1, the root of 2, 2
                int below = p == 2 ? 1 + 4 * i : i + (i > 0 ? 1 : 0) + (i > 3 ? 1 : 0);
                tell("rank", x.rank(p, i), none ? -1 : below, p, i);
                for (int bits : new int[] {LOW, -1, 0, 40, 41, HIGH}) {
                    boolean out = bits < 0 || bits > 40;
                    long got = x.floor(p, i, bits);
                    boolean near = !out && Math.abs(got) <= 2L << bits;
                    tell("floor", near ? 0 : got, none ? UNKNOWN : out ? OUTSIDE : 0, p, i, bits);
                }
                for (int what : new int[] {LOW, -1, 0, 1, 2, HIGH}) {
                    boolean out = what < 0 || what > 1;
                    long due = p == 3 ? what == 0 ? i - 2 : 1 : 0;
                    tell("fraction", x.fraction(p, i, what), none ? UNKNOWN : out ? OUTSIDE : due, p, i, what);
                }
                for (int q : POLYNOMIALS) {
                    long got = x.sign(q, p, i);
                    tell("sign", answersOfSign(got) ? 0 : got, none || unknown(q) ? -9 : 0, q, p, i);
                }
            }
        }
    }

    private static void sweepCompare() {
        for (int p : POLYNOMIALS) {
            for (int i : NUMBERS) {
                for (int q : POLYNOMIALS) {
                    for (int j : NUMBERS) {
                        renewInTime(0);
                        long got = x.compare(p, i, q, j);
                        boolean none = noRoot(p, i) || noRoot(q, j);
                        tell("compare", answersOfSign(got) ? 0 : got, none ? -9 : 0, p, i, q, j);
                    }
                }
            }
        }
    }

    private static void sweepFractions() {
        for (int p : POLYNOMIALS) {
            for (int n : UPPER) {
                for (int d : LOWER) {
                    renewInTime(0);
                    boolean out = outside(n, d);
                    long sign = x.at(p, n, d);
                    tell("at", answersOfSign(sign) ? 0 : sign, unknown(p) ? -9 : out ? -8 : 0, p, n, d);
                    tell("changes", x.changes(p, n, d), unknown(p) ? -1 : out ? -2 : p == 0 ? -3 : TAKEN, p, n, d);
                    for (int what : new int[] {LOW, -1, 0, 1, 2, HIGH}) {
                        sweepNewton(p, n, d, what);
                    }
                    for (int m : UPPER) {
                        for (int e : LOWER) {
                            sweepBetween(p, n, d, m, e);
                        }
                    }
                }
            }
        }
    }

    private static void sweepBetween(int p, int n, int d, int m, int e) {
        renewInTime(0);
        boolean out = outside(n, d) || outside(m, e) || (long) m * d < (long) n * e;
        tell("between", x.between(p, n, d, m, e), unknown(p) ? -1 : out ? -2 : p == 0 ? -3 : TAKEN, p, n, d, m, e);
    }

    private static void sweepNewton(int p, int n, int d, int what) {
        long got;
        try {
            got = x.newton(p, n, d, what);
        } catch (ArithmeticException e) {
            got = THROWN;
        }
        boolean out = outside(n, d) || what < 0 || what > 1;
        // the derivatives here: 0, 0, 2 x, 5 x^4 - 15 x^2 + 4 without a fraction as a root
        boolean flat = p == 0 || p == 1 || p == 2 && n == 0;
        boolean step = !unknown(p) && !out && !flat;
        long want = unknown(p) ? UNKNOWN : out ? OUTSIDE : THROWN;
        boolean plain = got != UNKNOWN && got != OUTSIDE && got != THROWN;
        tell("newton", step ? plain ? 0 : got : got, step ? 0 : want, p, n, d, what);
    }

    public static void main(String[] args) {
        renew(0);
        sweepOne();
        sweepSet();
        sweepRoots();
        sweepCompare();
        sweepFractions();
        check(0);
        sweepMake(0);
        sweepMake(7);
        sweepMake(8);
        System.out.println(wrong == 0 ? "all answers are as due" : wrong + " answers are not as due");
        if (wrong != 0) {
            System.exit(1);
        }
    }
}
