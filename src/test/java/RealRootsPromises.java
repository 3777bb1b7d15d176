/** For each promise of the document: ordinary inputs, the edges that it names, and wrong inputs. */
public final class RealRootsPromises {
    private static final long UNKNOWN = -4000000000000000000L;
    private static final long OUTSIDE = -4000000000000000001L;
    private static final long BEYOND = -4000000000000000004L;
    private static final long THROWN = 7777777777777777777L;
    private static final int LOW = Integer.MIN_VALUE;
    private static final int HIGH = Integer.MAX_VALUE;

    private static int wrong = 0;
    private static int promise = 0;
    private static int asked = 0;

    private static void due(long got, long want) {
        asked++;
        if (got != want) {
            wrong++;
            System.out.println("promise " + promise + ", question " + asked + ": answered " + got + ", due is " + want);
        }
    }

    private static void begin(int number) {
        promise = number;
        asked = 0;
    }

    /** A new polynomial with these coefficients, the one of x^0 first. */
    private static int add(RealRoots x, int... terms) {
        int p = x.polynomial();
        for (int k = 0; k < terms.length; k++) {
            due(x.set(p, k, terms[k]), 1000);
        }
        return p;
    }

    private static void holds(RealRoots x, int p, int... terms) {
        for (int k = 0; k < 6; k++) {
            due(x.coefficient(p, k), k < terms.length ? terms[k] : 0);
        }
    }

    private static long step(RealRoots x, int p, int n, int d, int what) {
        try {
            return x.newton(p, n, d, what);
        } catch (ArithmeticException e) {
            return THROWN;
        }
    }

    private static void newObject() {
        begin(1);
        RealRoots x = new RealRoots();
        due(x.count(), 0);
        due(x.all(), 0);
        due(x.degree(0), -9);
        due(RealRoots.NONE, -1);
        RealRoots y = new RealRoots();
        add(x, 1, 1);
        due(y.count(), 0);
    }

    private static void polynomial() {
        begin(2);
        RealRoots x = new RealRoots();
        for (int p = 0; p < 12; p++) {
            due(x.polynomial(), p);
            due(x.degree(p), -1);
            holds(x, p);
        }
        due(x.polynomial(), -4);
        due(x.polynomial(), -4);
        due(x.count(), 12);
        due(x.degree(12), -9);
    }

    private static void set() {
        begin(3);
        RealRoots x = new RealRoots();
        due(x.set(0, 0, 1), -1);
        due(x.set(0, 9, 9999), -1);
        x.polynomial();
        due(x.set(0, 0, -1000), 1000);
        due(x.set(0, 0, 1000), 0);
        due(x.set(0, 0, 7), 2000);
        due(x.set(0, 5, 3), 1000);
        due(x.set(0, -1, 0), -2);
        due(x.set(0, 6, 0), -2);
        due(x.set(0, LOW, 0), -2);
        due(x.set(0, HIGH, 0), -2);
        due(x.set(0, 0, 1001), -2);
        due(x.set(0, 0, -1001), -2);
        due(x.set(0, 0, LOW), -2);
        due(x.set(-1, 0, 1), -1);
        due(x.set(1, 0, 1), -1);
        due(x.set(LOW, 0, 1), -1);
        due(x.set(HIGH, 7, 1), -1);
        holds(x, 0, 7, 0, 0, 0, 0, 3);
        // what was known of the roots goes with the change
        int p = add(x, -1, 1);
        due(x.fraction(p, 0, 0), 1);
        due(x.rank(p, 0), 1);
        due(x.set(p, 0, -2), 999);
        due(x.fraction(p, 0, 0), 2);
        due(x.all(), 2);
        due(x.set(0, 5, 0), 1003);
        due(x.all(), 1);
        due(x.rank(p, 0), 0);
    }

    private static void coefficient() {
        begin(4);
        RealRoots x = new RealRoots();
        due(x.coefficient(0, 0), 0);
        int p = add(x, 1, -2, 3, -4, 5, -1000);
        holds(x, p, 1, -2, 3, -4, 5, -1000);
        due(x.coefficient(p, -1), 0);
        due(x.coefficient(p, 6), 0);
        due(x.coefficient(p, LOW), 0);
        due(x.coefficient(p, HIGH), 0);
        due(x.coefficient(-1, 0), 0);
        due(x.coefficient(1, 0), 0);
        due(x.coefficient(HIGH, 0), 0);
    }

    private static void makeOfTwo() {
        begin(5);
        RealRoots x = new RealRoots();
        add(x, 1, 2, 3);
        add(x, 999, -2, -3, 4);
        due(x.make(0, 0, 1), 2);
        holds(x, 2, 1000, 0, 0, 4);
        due(x.make(1, 0, 1), 3);
        holds(x, 3, -998, 4, 6, -4);
        due(x.make(0, 1, 1), -4);
        due(x.make(1, 0, 2), 4);
        holds(x, 4, -999, 2, 3, -4);
        due(x.make(1, 4, 0), 5);
        holds(x, 5, -1000, 0, 0, -4);
        due(x.make(1, 5, 0), -4);
        due(x.make(2, 0, 0), 6);
        holds(x, 6, 1, 4, 10, 12, 9);
        due(x.make(2, 6, 0), -4);
        due(x.make(2, 0, 1), -4);
        due(x.count(), 7);
        due(x.make(0, 0, 7), -1);
        due(x.make(1, 0, -1), -1);
        due(x.make(2, 7, 0), -1);
        due(x.make(4, 0, 7), -1);
        due(x.make(4, -1, 0), -1);
        due(x.make(-1, 0, 0), -1);
        due(x.make(10, 0, 0), -1);
        due(x.make(LOW, 0, 0), -1);
        due(x.make(HIGH, 0, 0), -1);
        due(x.count(), 7);
    }

    private static void makeCommon() {
        RealRoots x = new RealRoots();
        int zero = add(x);
        int a = add(x, -12, 0, 12);
        int b = add(x, -6, -6);
        due(x.make(4, a, b), 3);
        holds(x, 3, 1, 1);
        due(x.make(4, b, a), 4);
        holds(x, 4, 1, 1);
        due(x.make(4, zero, b), 5);
        holds(x, 5, 1, 1);
        due(x.make(4, a, zero), 6);
        holds(x, 6, -1, 0, 1);
        due(x.make(4, zero, zero), 7);
        due(x.degree(7), -1);
        int c = add(x, -8);
        due(x.make(4, c, a), 9);
        holds(x, 9, 1);
        due(x.make(4, a, a), 10);
        holds(x, 10, -1, 0, 1);
        // (6 x + 4) (5 x^2 - 3) and (9 x + 6) (x^4 + 1), with leads that have more in common than the divisor's
        x = new RealRoots();
        a = add(x, -12, -18, 20, 30);
        b = add(x, 6, 9, 0, 0, 6, 9);
        due(x.make(4, a, b), 2);
        holds(x, 2, 2, 3);
        c = add(x, -1000, 999, 0, 0, 0, -998);
        due(x.make(4, c, c), 4);
        holds(x, 4, 1000, -999, 0, 0, 0, 998);
        a = add(x, -7, -1);
        due(x.make(2, a, a), 6);
        due(x.make(2, 6, a), 7);
        holds(x, 7, -343, -147, -21, -1);
        due(x.make(2, 7, a), -4);
        due(x.make(4, 6, 7), 8);
        holds(x, 8, 49, 14, 1);
        // (x - 1) and (x^2 - x + 1) times (x + 1) (999 x + 1000): that one has 1999 x
        a = add(x, -1000, -999, 1000, 999);
        b = add(x, 1000, 999, 0, 1000, 999);
        due(x.make(4, a, b), -4);
        due(x.count(), 11);
    }

    private static void makeOfOne() {
        RealRoots x = new RealRoots();
        int a = add(x, 1, -2, 3, -4, 5, -6);
        due(x.make(3, a, LOW), 1);
        holds(x, 1, -2, 6, -12, 20, -30);
        due(x.make(7, a, HIGH), 2);
        holds(x, 2, 1, 2, 3, 4, 5, 6);
        due(x.make(8, a, 77), 3);
        holds(x, 3, -6, 5, -4, 3, -2, 1);
        int b = add(x, 0, 3, 1, 0, 200);
        due(x.make(8, b, 0), 5);
        holds(x, 5, 200, 0, 1, 3, 0);
        due(x.make(3, b, 0), 6);
        holds(x, 6, 3, 2, 0, 800);
        due(x.make(3, 6, 0), -4);
        int c = add(x, 5, -3, 1);
        due(x.make(6, c, 2), 8);
        holds(x, 8, 3, 1, 1);
        due(x.make(6, c, -1000), -4);
        due(x.make(6, c, 1001), -2);
        due(x.make(6, c, -1001), -2);
        due(x.make(6, 20, 1001), -1);
        due(x.make(9, c, -2), 9);
        holds(x, 9, 5, 6, 4);
        due(x.make(9, c, 0), 10);
        holds(x, 10, 5);
        due(x.make(9, c, 1000), -4);
        due(x.make(9, c, 1001), -2);
        due(x.make(9, c, LOW), -2);
        due(x.make(9, a, 1000), -4);
        due(x.make(6, a, 1000), -4);
        due(x.make(6, a, 0), 11);
        holds(x, 11, 1, -2, 3, -4, 5, -6);
        due(x.make(7, a, 0), -4);
        due(x.make(9, a, 1001), -2);
        due(x.make(5, a, 0), -4);
        due(x.count(), 12);
    }

    private static void makeWithoutRepeats() {
        RealRoots x = new RealRoots();
        int zero = add(x);
        due(x.make(5, zero, 0), -3);
        due(x.make(8, zero, 0), -3);
        due(x.make(3, zero, 0), 1);
        due(x.degree(1), -1);
        // (x - 1) (1000 x^4 + 999 x^3 - x^2 - 1001 x - 997), that one with the root 1 again
        int a = add(x, 997, 4, -1000, -1000, -1, 1000);
        due(x.make(5, a, 0), -4);
        // -8 (x - 1)^2 (x + 1)^2, and (x^2 + 1)^2 x: no real root but 0
        int b = add(x, -8, 0, 16, 0, -8);
        due(x.make(5, b, 0), 4);
        holds(x, 4, -1, 0, 1);
        int c = add(x, 0, 1, 0, 2, 0, 1);
        due(x.make(5, c, 0), 6);
        holds(x, 6, 0, 1, 0, 1);
        int d = add(x, -7);
        due(x.make(5, d, 0), 8);
        holds(x, 8, 1);
        int e = add(x, 4, -6);
        due(x.make(5, e, 0), 10);
        holds(x, 10, -2, 3);
        due(x.make(5, 11, 0), -1);
        due(x.polynomial(), 11);
        due(x.make(5, 11, 0), -3);
        due(x.make(5, b, 0), -4);
        due(x.make(0, a, 12), -1);
        RealRoots y = new RealRoots();
        // -2 (x - 1)^3 (2 x + 3)^2
        int f = add(y, 18, -30, -10, 30, 0, -8);
        due(y.make(5, f, 0), 1);
        holds(y, 1, -3, 1, 2);
    }

    private static void degree() {
        begin(6);
        RealRoots x = new RealRoots();
        due(x.degree(0), -9);
        int p = add(x);
        due(x.degree(p), RealRoots.NONE);
        for (int k = 0; k < 6; k++) {
            x.set(p, k, -1);
            due(x.degree(p), k);
        }
        x.set(p, 5, 0);
        due(x.degree(p), 4);
        due(x.degree(-1), -9);
        due(x.degree(1), -9);
        due(x.degree(LOW), -9);
        due(x.degree(HIGH), -9);
    }

    private static void roots() {
        begin(7);
        RealRoots x = new RealRoots();
        due(x.roots(0), -1);
        int zero = add(x);
        due(x.roots(zero), -3);
        due(x.roots(add(x, 5)), 0);
        due(x.roots(add(x, 1, 0, 1)), 0);
        due(x.roots(add(x, 0, 0, 0, 0, 0, -1)), 1);
        due(x.roots(add(x, 0, 4, 0, -5, 0, 1)), 5);
        due(x.roots(add(x, -1, 0, 1, 1, 0, -1)), 2);
        due(x.roots(add(x, 1000, 1000, 1000, 1000, 1000, 1)), 1);
        // x^5 - 2 (22 x - 1)^2: two roots very near 1 / 22, and a great one
        int near = add(x, -2, 88, -968, 0, 0, 1);
        due(x.roots(near), 3);
        // x^5 + 2 (22 x - 1)^2: only a negative one
        due(x.roots(add(x, 2, -88, 968, 0, 0, 1)), 1);
        due(x.roots(-1), -1);
        due(x.roots(10), -1);
        due(x.roots(HIGH), -1);
    }

    private static void times() {
        begin(8);
        RealRoots x = new RealRoots();
        due(x.times(0, 0), -1);
        int zero = add(x);
        due(x.times(zero, 0), -1);
        // x^3 (x - 3)^2
        int a = add(x, 0, 0, 0, 9, -6, 1);
        due(x.times(a, 0), 3);
        due(x.times(a, 1), 2);
        due(x.times(a, 2), -1);
        due(x.times(a, -1), -1);
        due(x.times(a, LOW), -1);
        due(x.times(a, HIGH), -1);
        // -(x + 3)^5, (x^2 - 2)^2, 7 x^4 (2 x + 1)
        int b = add(x, -243, -405, -270, -90, -15, -1);
        due(x.times(b, 0), 5);
        int c = add(x, 4, 0, -4, 0, 1);
        due(x.times(c, 0), 2);
        due(x.times(c, 1), 2);
        int d = add(x, 0, 0, 0, 0, 7, 14);
        due(x.times(d, 0), 1);
        due(x.times(d, 1), 4);
        // two roots next to one another, the upper at the end of the lower's bits: (2 x - 1) (x - 1)^2
        int e = add(x, -1, 4, -5, 2);
        due(x.times(e, 0), 1);
        due(x.times(e, 1), 2);
        due(x.times(add(x, 1, 0, 1), 0), -1);
        due(x.times(7, 0), -1);
        // the same with both repeated: (2 x - 1)^2 (x - 1)^2
        int f = add(x, 1, -6, 13, -12, 4);
        due(x.times(f, 0), 2);
        due(x.times(f, 1), 2);
    }

    private static void floor() {
        begin(9);
        RealRoots x = new RealRoots();
        due(x.floor(0, 0, 0), UNKNOWN);
        int zero = add(x);
        due(x.floor(zero, 0, 0), UNKNOWN);
        due(x.floor(zero, 0, 41), UNKNOWN);
        int two = add(x, -2, 0, 1);
        due(x.floor(two, 1, 40), 1554944255987L);
        due(x.floor(two, 0, 40), -1554944255988L);
        due(x.floor(two, 1, 0), 1);
        due(x.floor(two, 0, 0), -2);
        due(x.floor(two, 1, 31), 3037000499L);
        due(x.floor(two, 1, 32), 6074000999L);
        due(x.floor(two, 1, 30), 1518500249L);
        due(x.floor(two, 1, 41), OUTSIDE);
        due(x.floor(two, 1, -1), OUTSIDE);
        due(x.floor(two, 1, LOW), OUTSIDE);
        due(x.floor(two, 1, HIGH), OUTSIDE);
        due(x.floor(two, 2, HIGH), UNKNOWN);
        due(x.floor(two, -1, 0), UNKNOWN);
        due(x.floor(9, 0, 0), UNKNOWN);
        // roots that are whole, or halves, are their own floors
        int halves = add(x, 0, -1, 0, 4);
        due(x.floor(halves, 0, 0), -1);
        due(x.floor(halves, 0, 1), -1);
        due(x.floor(halves, 0, 40), -549755813888L);
        due(x.floor(halves, 1, 40), 0);
        due(x.floor(halves, 2, 0), 0);
        due(x.floor(halves, 2, 40), 549755813888L);
        int far = add(x, -1000, 1);
        due(x.floor(far, 0, 40), 1099511627776000L);
        // the farthest there is: x^6 - 1001 x^5 + 1000 by x - 1, so 1001 less some 10^-12
        int farthest = add(x, -1000, -1000, -1000, -1000, -1000, 1);
        due(x.floor(farthest, 0, 0), 1000);
        due(x.floor(farthest, 0, 40), 1001L * (1L << 40) - 2);
        int third = add(x, 1, 3);
        due(x.floor(third, 0, 0), -1);
        due(x.floor(third, 0, 40), -366503875926L);
    }

    private static void fraction() {
        begin(10);
        RealRoots x = new RealRoots();
        due(x.fraction(0, 0, 0), UNKNOWN);
        int zero = add(x);
        due(x.fraction(zero, 0, 0), UNKNOWN);
        // (4 x - 6) (x^2 - 2)
        int a = add(x, 12, -8, -6, 4);
        due(x.fraction(a, 0, 0), 0);
        due(x.fraction(a, 0, 1), 0);
        due(x.fraction(a, 1, 0), 0);
        due(x.fraction(a, 1, 1), 0);
        due(x.fraction(a, 2, 0), 3);
        due(x.fraction(a, 2, 1), 2);
        due(x.fraction(a, 3, 0), UNKNOWN);
        due(x.fraction(a, 3, 2), UNKNOWN);
        due(x.fraction(a, -1, 0), UNKNOWN);
        due(x.fraction(a, 0, 2), OUTSIDE);
        due(x.fraction(a, 0, -1), OUTSIDE);
        due(x.fraction(a, 0, HIGH), OUTSIDE);
        due(x.fraction(7, 0, 0), UNKNOWN);
        int b = add(x, 999, 1000);
        due(x.fraction(b, 0, 0), -999);
        due(x.fraction(b, 0, 1), 1000);
        int c = add(x, 0, 5);
        due(x.fraction(c, 0, 0), 0);
        due(x.fraction(c, 0, 1), 1);
        int d = add(x, 1000, 2);
        due(x.fraction(d, 0, 0), -500);
        due(x.fraction(d, 0, 1), 1);
        // (31 x - 1) (32 x - 1): two fractions that are near
        int e = add(x, 1, -63, 992);
        due(x.fraction(e, 0, 0), 1);
        due(x.fraction(e, 0, 1), 32);
        due(x.fraction(e, 1, 0), 1);
        due(x.fraction(e, 1, 1), 31);
        // (x - 1) (x^3 - 3 x^2 + 4 x - 1) has 1 and a root that is no fraction
        int f = add(x, 1, -5, 7, -4, 1);
        due(x.fraction(f, 0, 1), 0);
        due(x.fraction(f, 1, 0), 1);
        due(x.fraction(f, 1, 1), 1);
    }

    private static void sign() {
        begin(11);
        RealRoots x = new RealRoots();
        due(x.sign(0, 0, 0), -9);
        int zero = add(x);
        int two = add(x, -2, 0, 1);
        int a = add(x, -7, 5);
        int five = add(x, -5);
        due(x.sign(a, two, 0), -1);
        due(x.sign(a, two, 1), 1);
        due(x.sign(two, a, 0), -1);
        due(x.sign(zero, two, 0), 0);
        due(x.sign(five, two, 1), -1);
        due(x.sign(two, two, 1), 0);
        due(x.sign(two, zero, 0), -9);
        due(x.sign(two, five, 0), -9);
        due(x.sign(a, two, 2), -9);
        due(x.sign(a, two, -1), -9);
        due(x.sign(9, two, 0), -9);
        due(x.sign(-1, two, 0), -9);
        due(x.sign(two, 9, 0), -9);
        // (x^2 - 2) (x - 1) and (x^2 - 2)^2: 0 at one's roots; the square is above 0 elsewhere
        int b = add(x, 2, -2, -1, 1);
        int c = add(x, 4, 0, -4, 0, 1);
        due(x.sign(c, b, 0), 0);
        due(x.sign(c, b, 1), 1);
        due(x.sign(c, b, 2), 0);
        due(x.sign(b, c, 1), 0);
        // 577 / 408 is a little above the root of 2, 816 / 577 a little below
        int d = add(x, -577, 408);
        due(x.sign(d, two, 1), -1);
        due(x.sign(two, d, 0), 1);
        int e = add(x, 816, -577);
        due(x.sign(e, two, 1), -1);
        due(x.sign(two, e, 0), -1);
    }

    private static void compare() {
        begin(12);
        RealRoots x = new RealRoots();
        due(x.compare(0, 0, 0, 0), -9);
        int zero = add(x);
        int two = add(x, -2, 0, 1);
        int b = add(x, -4, 0, 0, 0, 1);
        int c = add(x, -577, 408);
        due(x.compare(two, 0, two, 1), -1);
        due(x.compare(two, 1, two, 0), 1);
        due(x.compare(two, 1, two, 1), 0);
        due(x.compare(two, 0, b, 0), 0);
        due(x.compare(two, 1, b, 1), 0);
        due(x.compare(b, 0, two, 1), -1);
        due(x.compare(c, 0, two, 1), 1);
        due(x.compare(two, 1, c, 0), -1);
        due(x.compare(zero, 0, two, 0), -9);
        due(x.compare(two, 0, zero, 0), -9);
        due(x.compare(two, 2, b, 0), -9);
        due(x.compare(two, 0, b, 2), -9);
        due(x.compare(two, -1, b, 0), -9);
        due(x.compare(two, 0, b, -1), -9);
        due(x.compare(9, 0, b, 0), -9);
        due(x.compare(two, 0, HIGH, 0), -9);
        // the roots at the ends of one another's bits: 1/2 and 1, 1 and 1/2
        int d = add(x, 1, -3, 2);
        int e = add(x, -1, 0, 1);
        due(x.compare(d, 0, e, 1), -1);
        due(x.compare(d, 1, e, 1), 0);
        due(x.compare(e, 1, d, 0), 1);
        // x, and x (2 x - 1) with two roots where the first has one
        int f = add(x, 0, 1);
        int g = add(x, 0, -1, 2);
        due(x.compare(f, 0, g, 1), -1);
        due(x.compare(g, 1, f, 0), 1);
        due(x.compare(f, 0, g, 0), 0);
    }

    private static void rankAndAll() {
        begin(13);
        RealRoots x = new RealRoots();
        due(x.rank(0, 0), -1);
        int zero = add(x);
        due(x.rank(zero, 0), -1);
        int a = add(x, 0, 4, 0, -5, 0, 1);
        int b = add(x, 2, 0, -3, 0, 1);
        int c = add(x, 4, 0, -4, 0, 1);
        add(x, 1, 0, 1);
        // -2, -r, -1, 0, 1, r, 2
        int[] due = {0, 2, 3, 4, 6};
        for (int i = 0; i < 5; i++) {
            due(x.rank(a, i), due[i]);
        }
        due(x.rank(b, 0), 1);
        due(x.rank(b, 1), 2);
        due(x.rank(b, 2), 4);
        due(x.rank(b, 3), 5);
        due(x.rank(c, 1), 5);
        due(x.rank(c, 2), -1);
        due(x.rank(c, -1), -1);
        due(x.rank(9, 0), -1);
        due(x.rank(LOW, 0), -1);
        begin(20);
        due(x.all(), 7);
        int d = add(x, 3, 2);
        due(x.all(), 8);
        due(x.rank(d, 0), 1);
        due(x.set(a, 5, 0), 1001);
        due(x.all(), 8);
        due(x.set(d, 0, 0), 1003);
        due(x.all(), 7);
        due(x.set(d, 1, 0), 1002);
        due(x.all(), 7);
        RealRoots y = new RealRoots();
        for (int p = 0; p < 12; p++) {
            // 5 roots each, none of them another's
            add(y, 0, 4, 0, -5, 0, 1);
            y.set(p, 0, p % 2 == 0 ? p / 2 + 1 : -1 - p / 2);
            y.set(p, 5, 1);
            y.set(p, 3, -1000 + p);
            y.set(p, 1, 900 + p);
        }
        due(y.all(), 60);
    }

    private static void between() {
        begin(14);
        RealRoots x = new RealRoots();
        due(x.between(0, 0, 1, 1, 1), -1);
        due(x.between(0, 0, 0, 1, 1), -1);
        int zero = add(x);
        due(x.between(zero, 0, 1, 1, 1), -3);
        due(x.between(zero, 1, 1, 0, 1), -2);
        // x^2 (x - 1)^2 (2 x - 1): above, and not above; the repeated ones count once
        int a = add(x, 0, 0, -1, 4, -5, 2);
        due(x.between(a, -1, 1, 1, 1), 3);
        due(x.between(a, 0, 1, 1, 1), 2);
        due(x.between(a, 0, 5, 2, 4), 1);
        due(x.between(a, 0, 1, 499999, 1000000), 0);
        due(x.between(a, 500000, 1000000, 999999, 1000000), 0);
        due(x.between(a, 1, 2, 1, 1), 1);
        due(x.between(a, 1, 1, 1, 1), 0);
        due(x.between(a, -1000000, 1, 1000000, 1), 3);
        due(x.between(a, -1000001, 1, 1, 1), -2);
        due(x.between(a, 0, 1, 1000001, 1), -2);
        due(x.between(a, 0, 0, 1, 1), -2);
        due(x.between(a, 0, 1, 1, 0), -2);
        due(x.between(a, 0, 1000001, 1, 1), -2);
        due(x.between(a, 0, 1, 1, 1000001), -2);
        due(x.between(a, 0, -1, 1, 1), -2);
        due(x.between(a, LOW, 1, HIGH, 1), -2);
        due(x.between(a, 1, 2, 499999, 1000000), -2);
        due(x.between(a, 2, 4, 1, 2), 0);
        due(x.between(2, 0, 1, 1, 1), -1);
        due(x.between(add(x, 5), -5, 1, 5, 1), 0);
    }

    private static void changesAndRow() {
        begin(15);
        RealRoots x = new RealRoots();
        due(x.changes(0, 0, 0), -1);
        int zero = add(x);
        due(x.changes(zero, 0, 0), -2);
        due(x.changes(zero, 0, 1), -3);
        // x^3 - 3 x + 2, 3 x^2 - 3, 2 x - 2
        int a = add(x, 2, -3, 0, 1);
        due(x.changes(a, -3, 1), 2);
        due(x.changes(a, -2, 1), 1);
        due(x.changes(a, -3, 2), 1);
        due(x.changes(a, 0, 1), 1);
        due(x.changes(a, 1, 1), 0);
        due(x.changes(a, 2, 1), 0);
        // the same with the other sign: all of the row turns
        int b = add(x, -2, 3, 0, -1);
        due(x.changes(b, -3, 1), 2);
        due(x.changes(b, 0, 1), 1);
        // x^5 + x^2, 5 x^4 + 2 x, -3/5 x^2, -2 x: a gap in the degrees
        int c = add(x, 0, 0, 1, 0, 0, 1);
        due(x.changes(c, -2, 1), 3);
        due(x.changes(c, 1, 1), 1);
        due(x.changes(c, 0, 1), 0);
        due(x.changes(c, 1, 0), -2);
        due(x.changes(c, 1, 1000001), -2);
        due(x.changes(c, 1000001, 1), -2);
        due(x.changes(c, -1000001, 1), -2);
        due(x.changes(c, LOW, LOW), -2);
        due(x.changes(9, 0, 1), -1);
        int d = add(x, -1000, 999, -998, 997, -996, 995);
        due(x.changes(d, -1000000, 1) - x.changes(d, 1000000, 1), x.roots(d));
        due(x.changes(add(x, -3), 0, 1), 0);
        begin(16);
        due(x.row(-1), -1);
        due(x.row(9), -1);
        due(x.row(zero), -3);
        due(x.row(a), 3);
        due(x.row(b), 3);
        due(x.row(c), 4);
        due(x.row(d), 6);
        due(x.row(5), 1);
        due(x.row(add(x, 1, 1)), 2);
        due(x.row(add(x, 0, 0, 0, 0, 0, 1)), 2);
        due(x.row(add(x, 1, 0, 0, 0, 0, 1)), 3);
        due(x.row(add(x, -2, 0, 1)), 3);
    }

    private static void at() {
        begin(17);
        RealRoots x = new RealRoots();
        due(x.at(0, 0, 0), -9);
        int zero = add(x);
        due(x.at(zero, 5, 7), 0);
        due(x.at(zero, 5, 0), -8);
        int a = add(x, -2, 3, -1, 0, 0, 1000);
        due(x.at(a, 0, 1), -1);
        due(x.at(a, 1, 1), 1);
        due(x.at(a, -1000000, 1), -1);
        due(x.at(a, 1000000, 999999), 1);
        due(x.at(a, 1, 1000000), -1);
        due(x.at(a, 1000001, 1), -8);
        due(x.at(a, -1000001, 1), -8);
        due(x.at(a, 1, 1000001), -8);
        due(x.at(a, 1, 0), -8);
        due(x.at(a, 1, -1), -8);
        due(x.at(a, LOW, LOW), -8);
        due(x.at(2, 1, 1), -9);
        int b = add(x, -3, 7);
        due(x.at(b, 3, 7), 0);
        due(x.at(b, 300000, 700000), 0);
        due(x.at(b, 300000, 699999), 1);
        due(x.at(b, 299999, 700000), -1);
        // 2^31 and 2^62, and the same below 0: a further limb comes with the last sum
        due(x.at(add(x, 213, 859, 1000), 1465, 1), 1);
        due(x.at(add(x, 256, 768, 768, 256), 262143, 1), 1);
        due(x.at(add(x, -256, -768, -768, -256), 262143, 1), -1);
    }

    private static void newton() {
        begin(18);
        RealRoots x = new RealRoots();
        due(step(x, 0, 0, 1, 0), UNKNOWN);
        int zero = add(x);
        due(step(x, zero, 0, 1, 0), THROWN);
        due(step(x, zero, 0, 0, 0), OUTSIDE);
        due(step(x, zero, 0, 1, 2), OUTSIDE);
        due(step(x, add(x, 3), 0, 1, 1), THROWN);
        int two = add(x, -2, 0, 1);
        due(step(x, two, 3, 2, 0), 17);
        due(step(x, two, 3, 2, 1), 12);
        due(step(x, two, -6, 4, 0), -17);
        due(step(x, two, -6, 4, 1), 12);
        due(step(x, two, 0, 3, 0), THROWN);
        due(step(x, two, 1, 1, -1), OUTSIDE);
        due(step(x, two, 1, 1, 2), OUTSIDE);
        due(step(x, two, 1000001, 1, 0), OUTSIDE);
        due(step(x, two, -1000001, 1, 0), OUTSIDE);
        due(step(x, two, 1, 1000001, 0), OUTSIDE);
        due(step(x, two, 1, 0, 0), OUTSIDE);
        due(step(x, two, LOW, HIGH, 0), OUTSIDE);
        due(step(x, 9, 1, 1, 0), UNKNOWN);
        due(step(x, -1, 1, 0, 9), UNKNOWN);
        // a line through 0 leads to 0 from anywhere
        int line = add(x, 0, -7);
        due(step(x, line, 999, 1000, 0), 0);
        due(step(x, line, 999, 1000, 1), 1);
        // (4 10^18 + 1) / (6 10^12)
        int cube = add(x, -1, 0, 0, 2);
        due(step(x, cube, 1000000, 1, 0), BEYOND);
        due(step(x, cube, 1000000, 1, 1), BEYOND);
        // x^3 leads to 2 / 3 of where it is
        int plain = add(x, 0, 0, 0, 1);
        due(step(x, plain, -1000000, 999999, 0), -2000000);
        due(step(x, plain, -1000000, 999999, 1), 2999997);
        int deep = add(x, -1, 999, -1000, 997, 1000, 991);
        due(step(x, deep, 999983, 999979, 0), BEYOND);
        // 1 less 2986 / 10945
        due(step(x, deep, 1, 1, 0), 7959);
        due(step(x, deep, 1, 1, 1), 10945);
    }

    /** Just 10^18 is in, more is beyond, and that for both numbers. */
    private static void newtonEdge() {
        RealRoots x = new RealRoots();
        // 250 x^5 + x + c at 1000 / 3: (10^18 - 243 c) / (3 (1250 10^12 + 81))
        int a = add(x, 0, 1, 0, 0, 0, 250);
        due(step(x, a, 1000, 3, 0), 1000000000000000000L);
        due(step(x, a, 1000, 3, 1), 3750000000000243L);
        due(step(x, a, -1000, 3, 0), -1000000000000000000L);
        due(step(x, a, -1000, 3, 1), 3750000000000243L);
        x.set(a, 0, -1);
        due(step(x, a, 1000, 3, 0), BEYOND);
        due(step(x, a, 1000, 3, 1), BEYOND);
        x.set(a, 0, 7);
        due(step(x, a, 1000, 3, 0), 1000000000000000000L - 1701);
        due(step(x, a, -1000, 3, 0), BEYOND);
        // x^5 + x at 1 / d: 4 / (d (d^4 + 5)): only the lower number is great
        int b = add(x, 0, 1, 0, 0, 0, 1);
        due(step(x, b, 1, 4573, 0), 2);
        due(step(x, b, 1, 4573, 1), 999944765363008479L);
        due(step(x, b, 1, 4575, 0), BEYOND);
        due(step(x, b, 1, 4575, 1), BEYOND);
        due(step(x, b, 1, 1000000, 0), BEYOND);
        // the lower number is 10^18
        int e = add(x, -3, 619, -752, 32, 24, 625);
        due(step(x, e, 3029, 3125, 0), 742533489108865131L);
        due(step(x, e, 3029, 3125, 1), 1000000000000000000L);
        // with the slope below 0 the lower number is above 0 all the same
        int c = add(x, 0, -1, 0, 0, 0, -1);
        due(step(x, c, 1, 4573, 0), 2);
        due(step(x, c, 1, 4573, 1), 999944765363008479L);
        due(step(x, c, -1, 4573, 0), -2);
    }

    private static void bound() {
        begin(19);
        RealRoots x = new RealRoots();
        due(x.bound(0), -1);
        int zero = add(x);
        due(x.bound(zero), -3);
        due(x.bound(add(x, 9)), 0);
        due(x.bound(add(x, 1, 0, 1)), 0);
        due(x.bound(add(x, 0, 1)), 0);
        due(x.bound(add(x, -2, 0, 1)), 2);
        due(x.bound(add(x, -3, 1)), 3);
        due(x.bound(add(x, 3, 1)), 3);
        due(x.bound(add(x, 7, 2)), 4);
        due(x.bound(add(x, -7, 2)), 4);
        due(x.bound(add(x, -1000, -1000, -1000, -1000, -1000, 1)), 1001);
        // (x - 2) (2 x - 5): the whole root below the last is not the bound
        due(x.bound(add(x, 10, -9, 2)), 3);
        due(x.bound(-1), -1);
        due(x.bound(12), -1);
        RealRoots y = new RealRoots();
        // (x + 5) (x - 2), and (x + 1) (x + 3): only negative ones
        due(y.bound(add(y, -10, 3, 1)), 5);
        due(y.bound(add(y, 3, 4, 1)), 3);
        due(y.bound(add(y, 1, 1000)), 1);
    }

    private static void count() {
        begin(21);
        RealRoots x = new RealRoots();
        for (int p = 0; p < 12; p++) {
            due(x.count(), p);
            due(p % 2 == 0 ? x.polynomial() : x.make(0, 0, 0), p);
        }
        due(x.count(), 12);
        due(x.make(0, 0, 0), -4);
        due(x.polynomial(), -4);
        due(x.make(8, 0, 0), -3);
        due(x.count(), 12);
    }

    public static void main(String[] args) {
        newObject();
        polynomial();
        set();
        coefficient();
        makeOfTwo();
        makeCommon();
        makeOfOne();
        makeWithoutRepeats();
        degree();
        roots();
        times();
        floor();
        fraction();
        sign();
        compare();
        rankAndAll();
        between();
        changesAndRow();
        at();
        newton();
        newtonEdge();
        bound();
        count();
        System.out.println(wrong == 0 ? "all answers are as due" : wrong + " answers are not as due");
        if (wrong != 0) {
            System.exit(1);
        }
    }
}
