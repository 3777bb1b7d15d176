/**
 * Each sentence of the document that names a boundary case, in the document's order: the last value that is
 * taken, the first that is refused, and that a refused call has changed nothing.
 */
public final class RealRootsEdges {
    private static final long UNKNOWN = -4000000000000000000L;
    private static final long OUTSIDE = -4000000000000000001L;
    private static final long BEYOND = -4000000000000000004L;
    private static final long THROWN = 7777777777777777777L;
    private static final long FULL = 1000000000000000000L;
    private static final int LOW = Integer.MIN_VALUE;
    private static final int HIGH = Integer.MAX_VALUE;
    private static final int MOST_CALLS = 512;
    private static final int[] OF_TWO = {0, 1, 2, 4};
    private static final int[] OF_ONE = {3, 5, 7, 8};
    private static final int[] OF_NUMBER = {6, 9};
    /** Fractions that are just within the bounds, and such as are just, or far, outside. */
    private static final int[][] INSIDE = {
        {-1000000, 1}, {1000000, 1}, {0, 1}, {1, 1000000}, {-1, 1000000}, {1000000, 1000000}, {-1000000, 1000000},
        {0, 1000000}, {1, 1},
    };
    private static final int[][] OUT = {
        {-1000001, 1}, {1000001, 1}, {LOW, 1}, {HIGH, 1}, {0, 0}, {1, 0}, {1, -1}, {-1, -1}, {1, LOW}, {1, 1000001},
        {1, HIGH}, {1000001, 1000001}, {LOW, LOW}, {HIGH, HIGH}, {-1000000, -1000000},
    };

    private static String sentence = "";
    private static int asked = 0;
    private static int wrong = 0;

    private static void says(String text) {
        sentence = text;
        asked = 0;
    }

    private static void fault(String text) {
        wrong++;
        System.out.println(sentence + " -- question " + asked + ": " + text);
    }

    private static void due(long got, long want) {
        asked++;
        if (got != want) {
            fault("answered " + got + ", due is " + want);
        }
    }

    /** An object that is called no more often than the document allows. */
    private static final class Probe {
        private final RealRoots x = new RealRoots();
        int calls = 0;

        private RealRoots call() {
            calls++;
            if (calls > MOST_CALLS) {
                fault("the test itself calls one object " + calls + " times");
            }
            return x;
        }

        int polynomial() {
            return call().polynomial();
        }

        int set(int p, int power, int v) {
            return call().set(p, power, v);
        }

        int coefficient(int p, int power) {
            return call().coefficient(p, power);
        }

        int make(int kind, int a, int b) {
            return call().make(kind, a, b);
        }

        int degree(int p) {
            return call().degree(p);
        }

        int roots(int p) {
            return call().roots(p);
        }

        int times(int p, int i) {
            return call().times(p, i);
        }

        long floor(int p, int i, int bits) {
            return call().floor(p, i, bits);
        }

        long fraction(int p, int i, int what) {
            return call().fraction(p, i, what);
        }

        int sign(int q, int p, int i) {
            return call().sign(q, p, i);
        }

        int compare(int p, int i, int q, int j) {
            return call().compare(p, i, q, j);
        }

        int rank(int p, int i) {
            return call().rank(p, i);
        }

        int between(int p, int n, int d, int m, int e) {
            return call().between(p, n, d, m, e);
        }

        int changes(int p, int n, int d) {
            return call().changes(p, n, d);
        }

        int row(int p) {
            return call().row(p);
        }

        int at(int p, int n, int d) {
            return call().at(p, n, d);
        }

        long newton(int p, int n, int d, int what) {
            try {
                return call().newton(p, n, d, what);
            } catch (ArithmeticException e) {
                return THROWN;
            }
        }

        int bound(int p) {
            return call().bound(p);
        }

        int all() {
            return call().all();
        }

        int count() {
            return call().count();
        }
    }

    /** A new polynomial with these coefficients, the one of x^0 first. */
    private static int add(Probe x, int... terms) {
        int p = x.polynomial();
        for (int k = 0; k < terms.length; k++) {
            if (terms[k] != 0) {
                due(x.set(p, k, terms[k]), 1000);
            }
        }
        return p;
    }

    private static void holds(Probe x, int p, int... terms) {
        for (int k = 0; k < 6; k++) {
            due(x.coefficient(p, k), k < terms.length ? terms[k] : 0);
        }
    }

    /** So many polynomials, number p being x - p. */
    private static Probe lines(int many) {
        Probe x = new Probe();
        for (int p = 0; p < many; p++) {
            due(add(x, -p, 1), p);
        }
        return x;
    }

    /** All that can be seen of an object: its polynomials, and their roots. */
    private static String state(Probe x) {
        int many = x.count();
        StringBuilder seen = new StringBuilder().append(many).append(" polynomials, all ").append(x.all());
        for (int p = 0; p < many; p++) {
            seen.append("; ");
            for (int k = 0; k < 6; k++) {
                seen.append(x.coefficient(p, k)).append(' ');
            }
            int roots = x.roots(p);
            seen.append("roots ").append(roots);
            for (int i = 0; i < roots; i++) {
                seen.append(' ').append(x.floor(p, i, 40));
            }
        }
        return seen.toString();
    }

    private static void unchanged(Probe x, String before) {
        asked++;
        String now = state(x);
        if (!now.equals(before)) {
            fault("was " + before + "\n    is " + now);
        }
    }

    // ---- what it is, and terms

    private static void fiveHundredAndTwelveCalls() {
        says("What it is: an object is used for at most 512 calls");
        Probe x = lines(12);
        boolean moved = false;
        // each change makes what was known of the roots worthless
        while (x.calls + 4 <= MOST_CALLS) {
            moved = !moved;
            due(x.set(0, 0, moved ? -11 : 0), moved ? 1000 : 989);
            due(x.all(), moved ? 11 : 12);
            due(x.rank(11, 0), moved ? 10 : 11);
            due(x.fraction(0, 0, 0), moved ? 11 : 0);
        }
        while (x.calls + 1 < MOST_CALLS) {
            due(x.count(), 12);
        }
        due(x.all(), moved ? 11 : 12);
        due(x.calls, MOST_CALLS);
        Probe y = new Probe();
        while (y.calls < 12) {
            due(y.polynomial(), y.calls - 1);
        }
        while (y.calls + 1 < MOST_CALLS) {
            due(y.newton(y.calls % 12, 0, 1, 0), THROWN);
        }
        due(y.set(11, 5, 1000), 1000);
        due(y.calls, MOST_CALLS);
    }

    private static void numbersOfPolynomials() {
        says("Terms: POLYNOMIALS have numbers from 0, 12 at most");
        Probe x = lines(12);
        String before = state(x);
        due(x.polynomial(), -4);
        due(x.make(0, 0, 0), -4);
        due(x.count(), 12);
        unchanged(x, before);
        for (int p = 0; p < 12; p++) {
            due(x.degree(p), 1);
        }
        due(x.degree(12), -9);
        due(x.degree(-1), -9);
    }

    /** Every call of a number that no polynomial has; those beside it are taken from number 0. */
    private static void unknownInEveryCall(Probe x, int p) {
        due(x.set(p, 0, 0), -1);
        due(x.set(p, 6, 1001), -1);
        due(x.coefficient(p, 0), 0);
        due(x.coefficient(p, 1), 0);
        for (int kind = 0; kind < 10; kind++) {
            due(x.make(kind, p, 0), -1);
        }
        for (int kind : OF_TWO) {
            due(x.make(kind, 0, p), -1);
        }
        due(x.degree(p), -9);
        due(x.roots(p), -1);
        due(x.times(p, 0), -1);
        due(x.floor(p, 0, 0), UNKNOWN);
        due(x.fraction(p, 0, 0), UNKNOWN);
        due(x.sign(p, 0, 0), -9);
        due(x.sign(0, p, 0), -9);
        due(x.compare(p, 0, 0, 0), -9);
        due(x.compare(0, 0, p, 0), -9);
        due(x.rank(p, 0), -1);
        due(x.between(p, 0, 1, 0, 1), -1);
        due(x.changes(p, 0, 1), -1);
        due(x.row(p), -1);
        due(x.at(p, 0, 1), -9);
        due(x.newton(p, 0, 1, 0), UNKNOWN);
        due(x.bound(p), -1);
    }

    private static void unknownPolynomials() {
        says("Terms: calls answer -1 for an unknown polynomial (none there is)");
        Probe none = new Probe();
        String empty = state(none);
        for (int p : new int[] {0, -1, 1, 11, 12, LOW, HIGH}) {
            unknownInEveryCall(none, p);
        }
        unchanged(none, empty);
        says("Terms: calls answer -1 for an unknown polynomial (three there are)");
        Probe three = lines(3);
        String before = state(three);
        for (int p : new int[] {3, -1, 4, 11, 12, LOW, HIGH}) {
            unknownInEveryCall(three, p);
        }
        unchanged(three, before);
        says("Terms: calls answer -1 for an unknown polynomial (twelve there are)");
        Probe full = lines(12);
        before = state(full);
        for (int p : new int[] {12, 13, -1}) {
            unknownInEveryCall(full, p);
        }
        unchanged(full, before);
    }

    /** Every call of the last number that there is, x - p. */
    private static void knownInEveryCall(Probe x, int p) {
        due(x.coefficient(p, 1), 1);
        due(x.degree(p), 1);
        due(x.roots(p), 1);
        due(x.times(p, 0), 1);
        due(x.floor(p, 0, 0), p);
        due(x.fraction(p, 0, 0), p);
        due(x.sign(p, 0, 0), -1);
        due(x.sign(0, p, 0), 1);
        due(x.compare(p, 0, 0, 0), 1);
        due(x.compare(0, 0, p, 0), -1);
        due(x.rank(p, 0), p);
        due(x.between(p, p - 1, 1, p, 1), 1);
        due(x.changes(p, p - 1, 1), 1);
        due(x.row(p), 2);
        due(x.at(p, p + 1, 1), 1);
        due(x.newton(p, 0, 1, 0), p);
        due(x.bound(p), p);
        due(x.set(p, 1, 1), 1001);
    }

    private static void lastKnownPolynomial() {
        says("Terms: numbers from 0, the last one is known to every call");
        knownInEveryCall(lines(3), 2);
        knownInEveryCall(lines(12), 11);
        for (int kind = 0; kind < 10; kind++) {
            Probe x = lines(11);
            due(x.make(kind, 10, kind == 6 || kind == 9 ? 1 : 10), 11);
        }
    }

    private static void coefficientsOfSixPowers() {
        says("Terms: each has COEFFICIENTS 0 .. 5");
        Probe x = new Probe();
        int p = x.polynomial();
        for (int power = 0; power < 6; power++) {
            due(x.set(p, power, power + 1), 1000);
        }
        holds(x, p, 1, 2, 3, 4, 5, 6);
        due(x.set(p, 6, 7), -2);
        due(x.set(p, -1, 7), -2);
        due(x.coefficient(p, 6), 0);
        due(x.coefficient(p, -1), 0);
        holds(x, p, 1, 2, 3, 4, 5, 6);
    }

    private static void coefficientsFromMinus1000To1000() {
        says("Terms: whole numbers from -1000 to 1000");
        Probe x = new Probe();
        int p = x.polynomial();
        for (int power = 0; power < 6; power++) {
            due(x.set(p, power, -1000), 1000);
            due(x.set(p, power, -1001), -2);
            due(x.coefficient(p, power), -1000);
            due(x.set(p, power, 1000), 0);
            due(x.set(p, power, 1001), -2);
            due(x.coefficient(p, power), 1000);
        }
    }

    private static void degreeOfZero() {
        says("Terms: DEGREE is the greatest power with a COEFFICIENT that is not 0, NONE (-1) of ZERO");
        due(RealRoots.NONE, -1);
        Probe x = new Probe();
        int p = x.polynomial();
        due(x.degree(p), -1);
        for (int power = 0; power < 6; power++) {
            due(x.set(p, power, -1), 1000);
            due(x.degree(p), power);
            due(x.set(p, power, 0), 999);
            due(x.degree(p), -1);
        }
        due(x.set(p, 5, 1), 1000);
        due(x.set(p, 0, 1), 1000);
        due(x.degree(p), 5);
        due(x.set(p, 5, 0), 1001);
        due(x.degree(p), 0);
    }

    private static void fractionsWithinBounds() {
        says("Terms: FRACTIONS are told with n from -1000000 to 1000000, d 1 to 1000000: these are taken");
        Probe x = new Probe();
        int p = add(x, 0, 1);
        int q = add(x, 0, 1, 1);
        for (int[] f : INSIDE) {
            int side = Integer.signum(f[0]);
            due(x.at(p, f[0], f[1]), side);
            due(x.changes(p, f[0], f[1]), side < 0 ? 1 : 0);
            due(x.between(p, f[0], f[1], 1000000, 1), side < 0 ? 1 : 0);
            due(x.between(p, -1000000, 1, f[0], f[1]), side >= 0 ? 1 : 0);
            // from x^2 + x: n^2 / (d (2 n + d))
            long upper = (long) f[0] * f[0];
            long lower = f[1] * (2L * f[0] + f[1]);
            long by = divisor(upper, lower) * Long.signum(lower);
            due(x.newton(q, f[0], f[1], 0), upper / by);
            due(x.newton(q, f[0], f[1], 1), lower / by);
        }
    }

    private static long divisor(long a, long b) {
        return b == 0 ? Math.abs(a) : divisor(b, a % b);
    }

    private static void fractionsOutOfBounds() {
        says("Terms: FRACTIONS n / d, d above 0, with n from -1000000 to 1000000, d 1 to 1000000: others are refused");
        Probe x = new Probe();
        int p = add(x, 0, 1);
        int zero = x.polynomial();
        String before = state(x);
        for (int[] f : OUT) {
            due(x.at(p, f[0], f[1]), -8);
            due(x.changes(p, f[0], f[1]), -2);
            due(x.between(p, f[0], f[1], 1000000, 1), -2);
            due(x.between(p, -1000000, 1, f[0], f[1]), -2);
            due(x.between(p, f[0], f[1], f[0], f[1]), -2);
            due(x.newton(p, f[0], f[1], 0), OUTSIDE);
            due(x.newton(p, f[0], f[1], 1), OUTSIDE);
            due(x.at(zero, f[0], f[1]), -8);
            due(x.changes(zero, f[0], f[1]), -2);
            due(x.between(zero, f[0], f[1], 1, 1), -2);
            due(x.newton(zero, f[0], f[1], 0), OUTSIDE);
        }
        unchanged(x, before);
    }

    private static void fractionsNotInLowestTerms() {
        says("Terms: FRACTIONS may be told not in lowest terms, too");
        Probe x = new Probe();
        int p = add(x, -1, 0, 4);
        int[][] halves = {{1, 2}, {2, 4}, {500000, 1000000}};
        for (int[] f : halves) {
            due(x.at(p, f[0], f[1]), 0);
            due(x.at(p, -f[0], f[1]), 0);
            due(x.changes(p, f[0], f[1]), 0);
            due(x.changes(p, -f[0], f[1]), 1);
            due(x.between(p, f[0], f[1], 1, 1), 0);
            due(x.between(p, 0, 1, f[0], f[1]), 1);
            due(x.newton(p, f[0], f[1], 0), 1);
            due(x.newton(p, f[0], f[1], 1), 2);
            for (int[] g : halves) {
                due(x.between(p, f[0], f[1], g[0], g[1]), 0);
                due(x.between(p, -f[0], f[1], g[0], g[1]), 1);
            }
        }
    }

    private static void primitive() {
        says("Terms: PRIMITIVE is by the greatest whole number, and with the greatest power's above 0");
        Probe x = new Probe();
        int zero = x.polynomial();
        int a = add(x, 6, 0, -9, 0, 0, 12);
        holds(x, x.make(4, a, zero), 2, 0, -3, 0, 0, 4);
        int b = add(x, 1000, 0, 0, 0, 0, -1000);
        holds(x, x.make(4, zero, b), -1, 0, 0, 0, 0, 1);
        int c = add(x, -1000);
        holds(x, x.make(4, zero, c), 1);
        int d = add(x, 2, -3);
        holds(x, x.make(5, d, 0), -2, 3);
        int e = add(x, 0, -1000);
        holds(x, x.make(5, e, 0), 0, 1);
    }

    private static void goesInto() {
        says("Terms: P GOES INTO Q if Q is P times a polynomial (of fractions)");
        Probe x = new Probe();
        int a = add(x, 0, 1000);
        int b = add(x, 0, 999, 999);
        holds(x, x.make(4, a, b), 0, 1);
        int c = add(x, 7);
        holds(x, x.make(4, c, b), 1);
        holds(x, x.make(4, a, c), 1);
        holds(x, x.make(4, c, c), 1);
        // 3 (2 x + 1) and 5 (2 x + 1) x: the divisor is no more than PRIMITIVE
        int d = add(x, 3, 6);
        int e = add(x, 0, 5, 10);
        holds(x, x.make(4, d, e), 1, 2);
    }

    private static void divisorWithZero() {
        says("Terms: GCD of ZERO and another: that one, PRIMITIVE; of two ZEROS: ZERO");
        Probe x = new Probe();
        int zero = x.polynomial();
        int more = x.polynomial();
        int a = add(x, 4, 0, 0, 0, 0, -2);
        holds(x, x.make(4, zero, a), -2, 0, 0, 0, 0, 1);
        holds(x, x.make(4, a, zero), -2, 0, 0, 0, 0, 1);
        int b = x.make(4, zero, more);
        due(b, 5);
        due(x.degree(b), -1);
        due(x.make(4, zero, zero), 6);
        due(x.degree(6), -1);
        due(x.roots(6), -3);
        holds(x, a, 4, 0, 0, 0, 0, -2);
    }

    private static void rootsOnceFromTheLeast() {
        says("Terms: ROOTS, each once, numbered from 0 from the least on");
        Probe x = new Probe();
        // x^3 (x - 3)^2, and the same with -x
        int p = add(x, 0, 0, 0, 9, -6, 1);
        int q = x.make(7, p, 0);
        due(x.roots(p), 2);
        due(x.fraction(p, 0, 0), 0);
        due(x.fraction(p, 1, 0), 3);
        due(x.fraction(q, 0, 0), -3);
        due(x.fraction(q, 1, 0), 0);
        // -2, -1, 0, 1, 2
        int five = add(x, 0, 4, 0, -5, 0, 1);
        for (int i = 0; i < 5; i++) {
            due(x.fraction(five, i, 0), i - 2);
        }
        due(x.fraction(five, 5, 0), UNKNOWN);
        due(x.fraction(five, -1, 0), UNKNOWN);
    }

    private static void timesToThePower() {
        says("Terms: a ROOT is n TIMES one if (x less it)^n, but not ^(n + 1), goes into it");
        Probe x = new Probe();
        int p = x.polynomial();
        for (int n = 1; n <= 5; n++) {
            due(x.set(p, n, -1000), 1000);
            due(x.times(p, 0), n);
            due(x.set(p, n, 0), 0);
        }
        // x + 3, then each time a factor more
        int line = add(x, 3, 1);
        int q = line;
        for (int n = 1; n <= 5; n++) {
            due(x.times(q, 0), n);
            q = n < 5 ? x.make(2, q, line) : q;
        }
    }

    private static void signRowEnds() {
        says("Terms: THE SIGN ROW has the derivative if that is not ZERO, then goes on as long as that is not ZERO");
        Probe x = new Probe();
        int one = add(x, -1000);
        due(x.row(one), 1);
        due(x.changes(one, 0, 1), 0);
        // x^5 and 5 x^4: no remainder
        int two = add(x, 0, 0, 0, 0, 0, 1);
        due(x.row(two), 2);
        due(x.changes(two, -1, 1), 1);
        due(x.changes(two, 1, 1), 0);
        // x^5 + 1, 5 x^4, -1
        int three = add(x, 1, 0, 0, 0, 0, 1);
        due(x.row(three), 3);
        due(x.changes(three, -2, 1), 2);
        due(x.changes(three, 2, 1), 1);
        int six = add(x, 0, 4, 0, -5, 0, 1);
        due(x.row(six), 6);
        due(x.changes(six, -3, 1), 5);
        due(x.changes(six, 3, 1), 0);
    }

    private static void changesLeaveOutNulls() {
        says("Terms: CHANGES, those that are 0 at the number left out");
        Probe x = new Probe();
        // x^2 - 1, 2 x, 1
        int p = add(x, -1, 0, 1);
        due(x.changes(p, -1, 1), 1);
        due(x.changes(p, -1000000, 999999), 2);
        due(x.changes(p, -999999, 1000000), 1);
        due(x.changes(p, 0, 1), 1);
        due(x.changes(p, 999999, 1000000), 1);
        due(x.changes(p, 1, 1), 0);
        // x^5: both are 0 at 0
        int q = add(x, 0, 0, 0, 0, 0, -1);
        due(x.changes(q, 0, 1), 0);
        // x^3 + x^2 - 1 at 0: -1, 0, then 2 x / 9 + 1, and -207 / 4
        int r = add(x, -1, 0, 1, 1);
        due(x.changes(r, 0, 1), 2);
    }

    private static void firstThatFits() {
        says("Terms: the first that fits, in this order");
        Probe x = lines(11);
        int zero = x.polynomial();
        due(zero, 11);
        String before = state(x);
        due(x.set(12, -1, 1001), -1);
        due(x.set(0, -1, 1001), -2);
        due(x.make(10, 12, 1001), -1);
        due(x.make(6, 12, 1001), -1);
        due(x.make(9, 12, -1001), -1);
        due(x.make(6, zero, 1001), -2);
        due(x.make(9, zero, -1001), -2);
        due(x.make(5, 12, 0), -1);
        due(x.make(8, 12, 0), -1);
        due(x.make(5, zero, 0), -3);
        due(x.make(8, zero, 0), -3);
        due(x.make(2, 0, 12), -1);
        due(x.make(2, 0, 0), -4);
        due(x.between(12, 1, 0, 0, 1), -1);
        due(x.between(zero, 1, 1, 0, 1), -2);
        due(x.between(zero, 0, 1, 0, 1), -3);
        due(x.changes(12, 1, 0), -1);
        due(x.changes(zero, 1, 0), -2);
        due(x.changes(zero, 0, 1), -3);
        due(x.at(12, 1, 0), -9);
        due(x.floor(12, 0, 41), UNKNOWN);
        due(x.floor(zero, 0, 41), UNKNOWN);
        due(x.fraction(zero, 0, 2), UNKNOWN);
        due(x.newton(12, 1, 0, 2), UNKNOWN);
        due(x.newton(zero, 0, 1, 2), OUTSIDE);
        due(x.newton(zero, 0, 0, 1), OUTSIDE);
        unchanged(x, before);
    }

    /** Every call of a ROOT that polynomial p has not; the object has a root 0 of polynomial 0. */
    private static void unknownRootInEveryCall(Probe x, int p, int i) {
        due(x.times(p, i), -1);
        due(x.floor(p, i, 0), UNKNOWN);
        due(x.floor(p, i, 41), UNKNOWN);
        due(x.fraction(p, i, 0), UNKNOWN);
        due(x.fraction(p, i, 1), UNKNOWN);
        due(x.fraction(p, i, 2), UNKNOWN);
        due(x.sign(0, p, i), -9);
        due(x.compare(p, i, 0, 0), -9);
        due(x.compare(0, 0, p, i), -9);
        due(x.rank(p, i), -1);
    }

    private static void unknownRoots() {
        says("Terms: calls answer -1 for an unknown ROOT");
        Probe x = new Probe();
        add(x, 0, 1);
        int five = add(x, 0, 4, 0, -5, 0, 1);
        int two = add(x, -2, 0, 1);
        int none = add(x, 1, 0, 1);
        int plain = add(x, 7);
        int zero = x.polynomial();
        // behind all these stands one more with five roots, that a wrong number could reach
        add(x, 0, 4, 0, -5, 0, 1);
        String before = state(x);
        for (int p : new int[] {five, two, none, plain, zero}) {
            int roots = p == five ? 5 : p == two ? 2 : 0;
            for (int i : new int[] {roots, -1, roots + 1, LOW, HIGH}) {
                unknownRootInEveryCall(x, p, i);
            }
        }
        unchanged(x, before);
    }

    // ---- the promises

    private static void newObject() {
        says("Promise 1: no polynomials");
        Probe x = new Probe();
        due(x.count(), 0);
        due(x.all(), 0);
        for (int p = 0; p < 12; p++) {
            due(x.degree(p), -9);
        }
        Probe y = lines(12);
        due(x.count(), 0);
        due(x.polynomial(), 0);
        due(x.degree(0), -1);
        due(y.count(), 12);
    }

    private static void newPolynomialIsZero() {
        says("Promise 2: a new polynomial, ZERO: its number");
        Probe x = new Probe();
        for (int p = 0; p < 12; p++) {
            due(x.polynomial(), p);
            due(x.count(), p + 1);
            due(x.degree(p), -1);
            due(x.roots(p), -3);
            holds(x, p);
            due(x.set(p, p % 6, p + 1), 1000);
        }
        Probe y = new Probe();
        // beyond the bounds: what was made of it does not stand in the next one
        int a = add(y, 1000, 1000, 1000, 1000, 1000, 1000);
        due(y.make(0, a, a), -4);
        int b = y.polynomial();
        due(b, 1);
        due(y.degree(b), -1);
        holds(y, b);
    }

    private static void noRoomForPolynomial() {
        says("Promise 2: -4 where there is no room");
        Probe x = lines(11);
        due(x.polynomial(), 11);
        String before = state(x);
        for (int n = 0; n < 3; n++) {
            due(x.polynomial(), -4);
        }
        unchanged(x, before);
    }

    private static void setTellsWhatItWas() {
        says("Promise 3: what it was (0 .. 2000: it and 1000)");
        Probe x = new Probe();
        int p = x.polynomial();
        for (int power = 0; power < 6; power++) {
            due(x.set(p, power, -1000), 1000);
            due(x.set(p, power, -1000), 0);
            due(x.set(p, power, 1000), 0);
            due(x.set(p, power, 1000), 2000);
            due(x.set(p, power, -1), 2000);
            due(x.set(p, power, 1), 999);
            due(x.set(p, power, 0), 1001);
            due(x.set(p, power, 0), 1000);
        }
    }

    private static void setRefuses() {
        says("Promise 3: -1; -2 the power (0 .. 5), value");
        Probe x = new Probe();
        due(x.set(0, 0, 1), -1);
        int p = add(x, -2, 0, 1, 3, 4, 5);
        String before = state(x);
        for (int power : new int[] {-1, 6, 7, LOW, HIGH}) {
            due(x.set(p, power, 0), -2);
            due(x.set(p, power, 1000), -2);
            due(x.set(p, power, 1001), -2);
        }
        for (int v : new int[] {-1001, 1001, LOW, HIGH}) {
            for (int power = -1; power <= 6; power++) {
                due(x.set(p, power, v), -2);
            }
        }
        for (int q : new int[] {1, -1, 12, LOW, HIGH}) {
            due(x.set(q, 0, 0), -1);
            due(x.set(q, 6, 0), -1);
            due(x.set(q, 0, 1001), -1);
        }
        unchanged(x, before);
    }

    private static void coefficientOfOthers() {
        says("Promise 4: 0 for others");
        Probe x = new Probe();
        due(x.coefficient(0, 0), 0);
        int p = add(x, 1, 2, 3, 4, 5, 6);
        int q = add(x, -1000, 7, 7, 7, 7, 1000);
        String before = state(x);
        due(x.coefficient(p, 0), 1);
        due(x.coefficient(p, 5), 6);
        due(x.coefficient(q, 0), -1000);
        due(x.coefficient(q, 5), 1000);
        for (int power : new int[] {-1, 6, 7, LOW, HIGH}) {
            due(x.coefficient(p, power), 0);
            due(x.coefficient(q, power), 0);
        }
        for (int other : new int[] {-1, 2, 11, 12, LOW, HIGH}) {
            for (int power = -1; power <= 6; power++) {
                due(x.coefficient(other, power), 0);
            }
        }
        unchanged(x, before);
    }

    private static void makeOfUnknownKind() {
        says("Promise 5: -1 for an unknown kind (0 .. 9)");
        Probe x = lines(2);
        String before = state(x);
        for (int kind : new int[] {-1, 10, 11, LOW, HIGH}) {
            due(x.make(kind, 0, 0), -1);
            due(x.make(kind, 1, 1001), -1);
            due(x.make(kind, 2, 0), -1);
        }
        unchanged(x, before);
        for (int kind = 0; kind < 10; kind++) {
            due(x.make(kind, 1, 1), kind + 2);
        }
        for (int kind : new int[] {-1, 10}) {
            due(x.make(kind, 0, 0), -1);
        }
    }

    private static void makeOfUnknownPolynomials() {
        says("Promise 5: b is a polynomial for 0, 1, 2, 4");
        Probe x = lines(2);
        String before = state(x);
        for (int p : new int[] {2, -1, 12, LOW, HIGH}) {
            for (int kind = 0; kind < 10; kind++) {
                due(x.make(kind, p, 0), -1);
            }
            for (int kind : OF_TWO) {
                due(x.make(kind, 0, p), -1);
                due(x.make(kind, p, p), -1);
            }
        }
        unchanged(x, before);
        for (int kind : OF_TWO) {
            due(x.make(kind, 1, 0), x.count() - 1);
            due(x.make(kind, 0, 1), x.count() - 1);
        }
    }

    private static void makeWithAnythingForB() {
        says("Promise 5: b is anything for others");
        for (int kind : OF_ONE) {
            Probe x = lines(2);
            due(x.make(kind, 1, 0), 2);
            int n = 3;
            for (int b : new int[] {2, -1, 12, 1001, -1001, LOW, HIGH}) {
                due(x.make(kind, 1, b), n);
                for (int k = 0; k < 6; k++) {
                    due(x.coefficient(n, k), x.coefficient(2, k));
                }
                n++;
            }
        }
    }

    private static void makeWithNumberForB() {
        says("Promise 5: b is a whole number -1000 .. 1000 (else -2) for 6, 9");
        Probe x = new Probe();
        int p = add(x, 0, 1);
        due(x.make(6, p, 1000), 1);
        holds(x, 1, 1000, 1);
        due(x.make(6, p, -1000), 2);
        holds(x, 2, -1000, 1);
        due(x.make(9, p, 1000), 3);
        holds(x, 3, 0, 1000);
        due(x.make(9, p, -1000), 4);
        holds(x, 4, 0, -1000);
        due(x.make(6, p, 0), 5);
        holds(x, 5, 0, 1);
        due(x.make(9, p, 0), 6);
        holds(x, 6);
        // a constant, and ZERO, stay within the bounds whatever the number is
        int plain = add(x, 5);
        int zero = x.polynomial();
        String before = state(x);
        for (int kind : OF_NUMBER) {
            for (int b : new int[] {-1001, 1001, LOW, HIGH}) {
                due(x.make(kind, p, b), -2);
                due(x.make(kind, plain, b), -2);
                due(x.make(kind, zero, b), -2);
            }
        }
        unchanged(x, before);
        due(x.make(6, plain, -1000), 9);
        due(x.make(9, zero, 1000), 10);
        due(x.degree(10), -1);
        due(x.make(9, plain, 1000), 11);
        holds(x, 11, 5);
    }

    private static void makeOfZero() {
        says("Promise 5: -3 of ZERO, for 5 and 8 alone");
        Probe x = new Probe();
        int zero = x.polynomial();
        String before = state(x);
        due(x.make(5, zero, 0), -3);
        due(x.make(8, zero, 0), -3);
        unchanged(x, before);
        int n = 1;
        for (int kind : new int[] {0, 1, 2, 3, 4, 6, 7, 9}) {
            due(x.make(kind, zero, zero), n);
            due(x.degree(n), -1);
            n++;
        }
        due(x.count(), 9);
        // the least that is not ZERO
        due(x.set(zero, 0, -1), 1000);
        due(x.make(5, zero, 0), 9);
        holds(x, 9, 1);
        due(x.make(8, zero, 0), 10);
        holds(x, 10, -1);
    }

    private static void noRoomForMade() {
        says("Promise 5: -4 no room, behind -1, -2 and -3");
        Probe x = lines(11);
        due(x.make(4, 0, 0), 11);
        String before = state(x);
        for (int kind = 0; kind < 10; kind++) {
            due(x.make(kind, 1, 1), -4);
        }
        due(x.make(6, 1, 1001), -2);
        due(x.make(9, 1, -1001), -2);
        due(x.make(10, 1, 1), -1);
        due(x.make(0, 1, 12), -1);
        unchanged(x, before);
        due(x.set(11, 1, 0), 1001);
        due(x.make(5, 11, 0), -3);
        due(x.make(8, 11, 0), -3);
        due(x.make(7, 11, 0), -4);
        due(x.count(), 12);
    }

    private static void sumsAtTheBounds() {
        says("Promise 5: 0 a + b, 1 a - b, -4 where a COEFFICIENT is beyond the bounds");
        for (int power = 0; power < 6; power++) {
            for (int side = -1; side <= 1; side += 2) {
                Probe x = new Probe();
                int a = x.polynomial();
                int b = x.polynomial();
                due(x.set(a, power, side * 999), 1000);
                due(x.set(b, power, side), 1000);
                due(x.make(0, a, b), 2);
                due(x.coefficient(2, power), side * 1000);
                due(x.set(b, power, -side), 1000 + side);
                due(x.make(1, a, b), 3);
                due(x.coefficient(3, power), side * 1000);
                due(x.set(b, power, side * 2), 1000 - side);
                String before = state(x);
                due(x.make(0, a, b), -4);
                due(x.make(0, b, a), -4);
                unchanged(x, before);
                due(x.set(b, power, side * -2), 1000 + side * 2);
                before = state(x);
                due(x.make(1, a, b), -4);
                due(x.make(1, b, a), -4);
                unchanged(x, before);
                due(x.make(0, a, b), 4);
                due(x.coefficient(4, power), side * 997);
            }
        }
    }

    private static void productsAtTheBounds() {
        says("Promise 5: 2 a b, -4 where a COEFFICIENT or a power is beyond the bounds");
        Probe x = new Probe();
        int a = add(x, 0, 0, 40);
        int b = add(x, 0, 0, 0, -25);
        due(x.make(2, a, b), 2);
        holds(x, 2, 0, 0, 0, 0, 0, -1000);
        due(x.make(2, a, a), -4);
        due(x.make(2, b, b), -4);
        // 1001 is 7 times 143
        due(x.set(a, 2, 7), 1040);
        due(x.set(b, 3, 143), 975);
        String before = state(x);
        due(x.make(2, a, b), -4);
        due(x.set(b, 3, -143), 1143);
        due(x.make(2, a, b), -4);
        due(x.set(b, 3, 143), 857);
        // x^6 .. x^10, with small coefficients
        due(x.make(2, b, b), -4);
        unchanged(x, before);
        due(x.set(a, 2, 1), 1007);
        due(x.set(b, 3, 1), 1143);
        due(x.make(2, a, b), 3);
        holds(x, 3, 0, 0, 0, 0, 0, 1);
        due(x.make(2, b, b), -4);
        due(x.make(2, 3, 3), -4);
        int line = add(x, 0, -1);
        due(x.make(2, 3, line), -4);
        due(x.make(2, line, 3), -4);
        int one = add(x, -1);
        due(x.make(2, 3, one), 6);
        holds(x, 6, 0, 0, 0, 0, 0, -1);
        int zero = x.polynomial();
        due(x.make(2, 3, zero), 8);
        due(x.degree(8), -1);
        due(x.make(2, zero, 3), 9);
        due(x.degree(9), -1);
    }

    private static void greatestProducts() {
        says("Promise 5: 2 a b, the greatest COEFFICIENTS there are");
        Probe x = new Probe();
        int a = add(x, 1000, 1000, 1000, 1000, 1000, 1000);
        String before = state(x);
        due(x.make(2, a, a), -4);
        due(x.make(6, a, 1000), -4);
        due(x.make(6, a, -1000), -4);
        due(x.make(9, a, 1000), -4);
        due(x.make(9, a, -1000), -4);
        due(x.make(3, a, 0), -4);
        due(x.make(0, a, a), -4);
        unchanged(x, before);
        due(x.make(1, a, a), 1);
        due(x.degree(1), -1);
        int c = add(x, -1, 500);
        due(x.make(2, c, c), -4);
        // (x + 40) (25 x - 1000) is 25 x^2 - 40000
        due(x.make(2, add(x, 40, 1), add(x, -1000, 25)), -4);
        // (x - 31) (x + 31) is x^2 - 961, (x - 32) (x + 32) x^2 - 1024
        due(x.make(2, add(x, -31, 1), add(x, 31, 1)), 7);
        holds(x, 7, -961, 0, 1);
        due(x.make(2, add(x, -32, 1), add(x, 32, 1)), -4);
        due(x.count(), 10);
    }

    private static void derivativesAtTheBounds() {
        says("Promise 5: 3 the derivative of a, -4 where a COEFFICIENT is beyond the bounds");
        for (int power = 1; power < 6; power++) {
            Probe x = new Probe();
            int a = x.polynomial();
            int last = 1000 / power;
            due(x.set(a, power, last), 1000);
            due(x.make(3, a, 0), 1);
            due(x.coefficient(1, power - 1), last * power);
            due(x.coefficient(1, power), 0);
            due(x.set(a, power, -last), 1000 + last);
            due(x.make(3, a, 0), 2);
            due(x.coefficient(2, power - 1), -last * power);
            for (int side = -1; side <= 1 && power > 1; side += 2) {
                x.set(a, power, side * (last + 1));
                String before = state(x);
                due(x.make(3, a, 0), -4);
                unchanged(x, before);
            }
        }
        Probe y = new Probe();
        due(y.make(3, add(y, 1000), 0), 1);
        due(y.degree(1), -1);
    }

    private static void divisorsAtTheBounds() {
        says("Promise 5: 4 GCD, -4 where a COEFFICIENT is beyond the bounds");
        Probe x = new Probe();
        // 500 x^2 + 1000 x + 501 times x - 1, and times x^2 - x + 1
        int a = add(x, -501, -499, 500, 500);
        int b = add(x, 501, 499, 1, 500, 500);
        due(x.make(4, a, b), 2);
        holds(x, 2, 501, 1000, 500);
        // 500 x^2 + 1001 x + 500 times the same
        int c = add(x, -500, -501, 501, 500);
        int d = add(x, 500, 501, -1, 501, 500);
        String before = state(x);
        due(x.make(4, c, d), -4);
        due(x.make(4, d, c), -4);
        unchanged(x, before);
        due(x.count(), 5);
        int e = add(x, 999, -1000, 0, 0, 0, -1000);
        due(x.make(4, e, e), 6);
        holds(x, 6, -999, 1000, 0, 0, 0, 1000);
    }

    private static void freePartsAtTheBounds() {
        says("Promise 5: 5 a PRIMITIVE without ROOTS that come again, -4 where a COEFFICIENT is beyond the bounds");
        Probe x = new Probe();
        // (x - 1)^2 (501 x^3 + 1501 x^2 + 1502 x + 752): x - 1 only once leaves 1000 x^3
        int a = add(x, 752, -2, -751, -999, 499, 501);
        due(x.make(5, a, 0), 1);
        holds(x, 1, -752, -750, 1, 1000, 501);
        // (x - 1)^2 (500 x^3 + 1501 x^2 + 1502 x + 752): it leaves 1001 x^3
        int b = add(x, 752, -2, -751, -1000, 501, 500);
        String before = state(x);
        due(x.make(5, b, 0), -4);
        unchanged(x, before);
        // its roots are to be had all the same
        due(x.times(b, x.roots(b) - 1), 2);
        says("Promise 5: 5 a without ROOTS that come again, also those that are not real");
        // (x^2 + 1)^2 and (x^2 + 1)^2 (x - 3), and -2 (x^2 + x + 1)^2
        int c = add(x, 1, 0, 2, 0, 1);
        holds(x, x.make(5, c, 0), 1, 0, 1);
        int d = add(x, -3, 1, -6, 2, -3, 1);
        holds(x, x.make(5, d, 0), -3, 1, -3, 1);
        int e = add(x, -2, -4, -6, -4, -2);
        holds(x, x.make(5, e, 0), 1, 1, 1);
    }

    private static void movedAtTheBounds() {
        says("Promise 5: 6 a with x and b in place of x, -4 where a COEFFICIENT is beyond the bounds");
        Probe x = new Probe();
        int a = add(x, 1, 1);
        int b = add(x, -1, 1);
        due(x.make(6, a, 999), 2);
        holds(x, 2, 1000, 1);
        due(x.make(6, b, -999), 3);
        holds(x, 3, -1000, 1);
        due(x.make(6, b, 1000), 4);
        holds(x, 4, 999, 1);
        // (x + 3)^5 has 405 x, (x + 4)^5 has 1280 x
        int c = add(x, 0, 0, 0, 0, 0, 1);
        due(x.make(6, c, 3), 6);
        holds(x, 6, 243, 405, 270, 90, 15, 1);
        due(x.make(6, c, -3), 7);
        holds(x, 7, -243, 405, -270, 90, -15, 1);
        String before = state(x);
        due(x.make(6, a, 1000), -4);
        due(x.make(6, b, -1000), -4);
        due(x.make(6, c, 4), -4);
        due(x.make(6, c, -4), -4);
        due(x.make(6, c, 1000), -4);
        unchanged(x, before);
    }

    private static void turnedRound() {
        says("Promise 5: 7 a with -x, 8 a's COEFFICIENTS from its DEGREE down");
        Probe x = new Probe();
        int a = add(x, 1000, -1000, 1000, -1000, 1000, -1000);
        due(x.make(7, a, 0), 1);
        holds(x, 1, 1000, 1000, 1000, 1000, 1000, 1000);
        due(x.make(8, a, 0), 2);
        holds(x, 2, -1000, 1000, -1000, 1000, -1000, 1000);
        // DEGREE 3, and what is 0 below the rest makes the new DEGREE less
        int b = add(x, 0, 0, 5, -7);
        due(x.make(8, b, 0), 4);
        holds(x, 4, -7, 5);
        int c = add(x, 0, 0, 0, 0, 0, 9);
        due(x.make(8, c, 0), 6);
        holds(x, 6, 9);
        due(x.make(7, c, 0), 7);
        holds(x, 7, 0, 0, 0, 0, 0, -9);
        int d = add(x, 3);
        due(x.make(8, d, 0), 9);
        holds(x, 9, 3);
        due(x.make(7, d, 0), 10);
        holds(x, 10, 3);
    }

    private static void stretchedAtTheBounds() {
        says("Promise 5: 9 a with b x in place of x, -4 where a COEFFICIENT is beyond the bounds");
        Probe x = new Probe();
        int a = add(x, 1000, 7);
        int b = add(x, 0, 0, 0, 0, 0, 1);
        due(x.make(9, a, 142), 2);
        holds(x, 2, 1000, 994);
        due(x.make(9, b, 3), 3);
        holds(x, 3, 0, 0, 0, 0, 0, 243);
        due(x.make(9, b, -3), 4);
        holds(x, 4, 0, 0, 0, 0, 0, -243);
        int c = add(x, 0, 0, -10);
        due(x.make(9, c, -10), 6);
        holds(x, 6, 0, 0, -1000);
        int zero = x.polynomial();
        due(x.make(9, zero, 1000), 8);
        due(x.degree(8), -1);
        String before = state(x);
        due(x.make(9, a, 143), -4);
        due(x.make(9, a, -143), -4);
        due(x.make(9, b, 4), -4);
        due(x.make(9, b, -4), -4);
        due(x.make(9, c, 11), -4);
        // 1000^5 is more than an int holds
        due(x.make(9, b, 1000), -4);
        due(x.make(9, b, -1000), -4);
        unchanged(x, before);
    }

    private static void makeLeavesTheOthers() {
        says("Promise 5: a new polynomial made of others: none of them changes with another");
        for (int kind = 0; kind < 10; kind++) {
            Probe x = new Probe();
            int a = add(x, 4, -6, 2);
            int b = add(x, -2, 1);
            int made = x.make(kind, a, kind == 6 || kind == 9 ? 2 : b);
            due(made, 2);
            holds(x, a, 4, -6, 2);
            holds(x, b, -2, 1);
            int first = x.coefficient(made, 0);
            due(x.set(a, 0, 77), 1004);
            due(x.set(b, 0, 78), 998);
            due(x.coefficient(made, 0), first);
            due(x.set(made, 0, 79), 1000 + first);
            holds(x, a, 77, -6, 2);
            holds(x, b, 78, 1);
        }
    }

    private static void degreeOfUnknown() {
        says("Promise 6: DEGREE. -9 unknown");
        Probe x = new Probe();
        due(x.degree(0), -9);
        int p = x.polynomial();
        String before = state(x);
        due(x.degree(p), -1);
        due(x.degree(p + 1), -9);
        due(x.degree(-1), -9);
        due(x.degree(12), -9);
        due(x.degree(LOW), -9);
        due(x.degree(HIGH), -9);
        unchanged(x, before);
        due(x.set(p, 0, 1), 1000);
        due(x.degree(p), 0);
        due(x.set(p, 5, -1), 1000);
        due(x.degree(p), 5);
    }

    private static void rootsRefuses() {
        says("Promise 7: how many ROOTS. -1; -3");
        Probe x = new Probe();
        due(x.roots(0), -1);
        int p = x.polynomial();
        due(x.roots(p), -3);
        String before = state(x);
        due(x.roots(p + 1), -1);
        due(x.roots(-1), -1);
        due(x.roots(12), -1);
        due(x.roots(LOW), -1);
        due(x.roots(HIGH), -1);
        unchanged(x, before);
        due(x.set(p, 0, 1), 1000);
        due(x.roots(p), 0);
        due(x.set(p, 0, 0), 1001);
        due(x.roots(p), -3);
    }

    private static void fewestAndMostRoots() {
        says("Promise 7: how many ROOTS: none, one, five, and where two become none");
        Probe x = new Probe();
        int p = add(x, -1000);
        due(x.roots(p), 0);
        due(x.set(p, 1, 1), 1000);
        due(x.roots(p), 1);
        due(x.roots(add(x, 0, 4, 0, -5, 0, 1)), 5);
        due(x.roots(add(x, 0, 0, 0, 0, 0, 1000)), 1);
        // x^2 + 2 x + c
        int q = add(x, -1, 2, 1);
        due(x.roots(q), 2);
        due(x.set(q, 0, 1), 999);
        due(x.roots(q), 1);
        due(x.set(q, 0, 2), 1001);
        due(x.roots(q), 0);
        // 499 x^2 - 999 x + 500 has 1 and 500 / 499
        due(x.roots(add(x, 500, -999, 499)), 2);
        // 999^2 is 998001: 1000 times 998 is just less, 1000 times 999 more
        due(x.roots(add(x, 998, -999, 250)), 2);
        due(x.roots(add(x, 999, -999, 250)), 0);
        due(x.roots(add(x, -1000, -1000, -1000, -1000, -1000, 1)), 1);
        due(x.roots(add(x, 1, -1000, 1000, 1000, -1000, 1)), 5);
    }

    private static void timesRefuses() {
        says("Promise 8: -1 (also no such ROOT, ZERO)");
        Probe x = new Probe();
        due(x.times(0, 0), -1);
        int zero = x.polynomial();
        int p = add(x, 0, 0, -1, 1);
        int none = add(x, 1, 0, 1);
        int plain = add(x, 5);
        String before = state(x);
        due(x.times(p, 0), 2);
        due(x.times(p, 1), 1);
        for (int i : new int[] {2, -1, 3, LOW, HIGH}) {
            due(x.times(p, i), -1);
        }
        for (int i : new int[] {0, 1, -1, LOW, HIGH}) {
            due(x.times(zero, i), -1);
            due(x.times(none, i), -1);
            due(x.times(plain, i), -1);
            due(x.times(4, i), -1);
            due(x.times(-1, i), -1);
        }
        unchanged(x, before);
    }

    private static void floorBits() {
        says("Promise 9: -4000000000000000001 bits not 0 .. 40");
        Probe x = new Probe();
        int p = add(x, -2, 0, 1);
        due(x.floor(p, 1, 0), 1);
        due(x.floor(p, 0, 0), -2);
        due(x.floor(p, 1, 40), 1554944255987L);
        due(x.floor(p, 0, 40), -1554944255988L);
        String before = state(x);
        for (int bits : new int[] {-1, 41, 62, 63, 64, LOW, HIGH}) {
            due(x.floor(p, 0, bits), OUTSIDE);
            due(x.floor(p, 1, bits), OUTSIDE);
        }
        unchanged(x, before);
        due(x.floor(p, 1, 1), 2);
        due(x.floor(p, 1, 39), 777472127993L);
    }

    private static void floorOfUnknown() {
        says("Promise 9: -4000000000000000000 unknown (also of ZERO), before the bits");
        Probe x = new Probe();
        due(x.floor(0, 0, 0), UNKNOWN);
        int zero = x.polynomial();
        int p = add(x, -2, 0, 1);
        String before = state(x);
        for (int bits : new int[] {0, 40, -1, 41}) {
            due(x.floor(zero, 0, bits), UNKNOWN);
            due(x.floor(zero, -1, bits), UNKNOWN);
            due(x.floor(p, 2, bits), UNKNOWN);
            due(x.floor(p, -1, bits), UNKNOWN);
            due(x.floor(2, 0, bits), UNKNOWN);
            due(x.floor(-1, 0, bits), UNKNOWN);
            due(x.floor(LOW, 0, bits), UNKNOWN);
            due(x.floor(p, HIGH, bits), UNKNOWN);
        }
        unchanged(x, before);
        due(x.floor(p, 1, 40), 1554944255987L);
    }

    private static void floorNotAbove() {
        says("Promise 9: the greatest whole number not above a ROOT times 2^bits");
        Probe x = new Probe();
        // fractions by 2: just at a whole number from a certain bit on; -3 / 8 and 5 / 8
        int a = add(x, -15, -16, 64);
        long[] low = {-1, -1, -2, -3, -6};
        long[] high = {0, 1, 2, 5, 10};
        for (int bits = 0; bits < 5; bits++) {
            due(x.floor(a, 0, bits), low[bits]);
            due(x.floor(a, 1, bits), high[bits]);
        }
        due(x.floor(a, 0, 40), -3L << 37);
        due(x.floor(a, 1, 40), 5L << 37);
        // 0 is its own floor, and so is each whole number
        int b = add(x, 0, 1);
        due(x.floor(b, 0, 0), 0);
        due(x.floor(b, 0, 40), 0);
        for (int whole : new int[] {-1000, -1, 1, 1000}) {
            int before = x.coefficient(b, 0);
            due(x.set(b, 0, -whole), 1000 + before);
            due(x.floor(b, 0, 0), whole);
            due(x.floor(b, 0, 40), whole * (1L << 40));
        }
        // 1 / 1000 below, and above, a whole number
        due(x.floor(add(x, -999, 1000), 0, 0), 0);
        due(x.floor(add(x, 1, 1000), 0, 0), -1);
        due(x.floor(add(x, -1, 1000), 0, 0), 0);
        due(x.floor(add(x, -1, 1000), 0, 9), 0);
        due(x.floor(add(x, -1, 1000), 0, 10), 1);
        // the farthest roots: 1001 less some 10^-12, and its mirror image
        int far = add(x, -1000, -1000, -1000, -1000, -1000, 1);
        due(x.floor(far, 0, 0), 1000);
        due(x.floor(far, 0, 40), 1001L * (1L << 40) - 2);
        int near = x.make(7, far, 0);
        due(x.floor(near, 0, 0), -1001);
        due(x.floor(near, 0, 40), -1001L * (1L << 40) + 1);
    }

    private static void fractionWhat() {
        says("Promise 10: n (what = 0), d (1). -4000000000000000001 what");
        Probe x = new Probe();
        int p = add(x, 3, 6);
        int q = add(x, -2, 0, 1);
        String before = state(x);
        due(x.fraction(p, 0, 0), -1);
        due(x.fraction(p, 0, 1), 2);
        for (int what : new int[] {-1, 2, 3, LOW, HIGH}) {
            due(x.fraction(p, 0, what), OUTSIDE);
            due(x.fraction(q, 0, what), OUTSIDE);
            due(x.fraction(q, 1, what), OUTSIDE);
        }
        unchanged(x, before);
    }

    private static void fractionOfUnknown() {
        says("Promise 10: -4000000000000000000 unknown, before what");
        Probe x = new Probe();
        due(x.fraction(0, 0, 0), UNKNOWN);
        int zero = x.polynomial();
        int p = add(x, 0, -1, 1);
        String before = state(x);
        for (int what : new int[] {0, 1, -1, 2}) {
            due(x.fraction(zero, 0, what), UNKNOWN);
            due(x.fraction(p, 2, what), UNKNOWN);
            due(x.fraction(p, -1, what), UNKNOWN);
            due(x.fraction(2, 0, what), UNKNOWN);
            due(x.fraction(-1, 0, what), UNKNOWN);
            due(x.fraction(HIGH, LOW, what), UNKNOWN);
        }
        unchanged(x, before);
        due(x.fraction(p, 1, 0), 1);
    }

    private static void fractionOrNone() {
        says("Promise 10: in lowest terms; d is 0, n 0, if it is none");
        Probe x = new Probe();
        // the root 0 is a fraction, 0 / 1
        int a = add(x, 0, -1000);
        due(x.fraction(a, 0, 0), 0);
        due(x.fraction(a, 0, 1), 1);
        int two = add(x, -2, 0, 1);
        for (int i = 0; i < 2; i++) {
            due(x.fraction(two, i, 0), 0);
            due(x.fraction(two, i, 1), 0);
        }
        // 1000 / 998 and 999 / 1000: the greatest lower numbers
        int b = add(x, 1000, -998);
        due(x.fraction(b, 0, 0), 500);
        due(x.fraction(b, 0, 1), 499);
        int c = add(x, -999, 1000);
        due(x.fraction(c, 0, 0), 999);
        due(x.fraction(c, 0, 1), 1000);
        int d = add(x, -1, -1000);
        due(x.fraction(d, 0, 0), -1);
        due(x.fraction(d, 0, 1), 1000);
        int e = add(x, 1000, -1);
        due(x.fraction(e, 0, 0), 1000);
        due(x.fraction(e, 0, 1), 1);
        // 1 / 1000 less 10^-18 is no fraction: x^5 + 1000 x - 1
        int f = add(x, -1, 1000, 0, 0, 0, 1);
        due(x.fraction(f, 0, 0), 0);
        due(x.fraction(f, 0, 1), 0);
        // (1000 x - 1) (x^4 + 1), with the same root as a fraction
        int g = add(x, -1, 1000, 0, 0, -1, 1000);
        due(x.fraction(g, 0, 0), 1);
        due(x.fraction(g, 0, 1), 1000);
    }

    private static void signOfZero() {
        says("Promise 11: the sign of polynomial q at ROOT i of p. -9 unknown (also of ZERO p)");
        Probe x = new Probe();
        due(x.sign(0, 0, 0), -9);
        int zero = x.polynomial();
        due(x.sign(zero, zero, 0), -9);
        int p = add(x, -2, 0, 1);
        int plain = add(x, -1000);
        int none = add(x, 1, 0, 1);
        String before = state(x);
        due(x.sign(zero, p, 0), 0);
        due(x.sign(zero, p, 1), 0);
        due(x.sign(plain, p, 0), -1);
        due(x.sign(none, p, 1), 1);
        due(x.sign(p, p, 0), 0);
        for (int q : new int[] {zero, p, plain, none}) {
            due(x.sign(q, zero, 0), -9);
            due(x.sign(q, plain, 0), -9);
            due(x.sign(q, none, 0), -9);
            due(x.sign(q, p, 2), -9);
            due(x.sign(q, p, -1), -9);
            due(x.sign(q, p, LOW), -9);
            due(x.sign(q, p, HIGH), -9);
            due(x.sign(q, 4, 0), -9);
            due(x.sign(q, -1, 0), -9);
            due(x.sign(4, q, 0), -9);
            due(x.sign(-1, q, 0), -9);
        }
        due(x.sign(HIGH, p, 0), -9);
        due(x.sign(LOW, p, 0), -9);
        unchanged(x, before);
    }

    /** Two polynomials, each with a root near 1 / 1000, the first's above the second's by some 10^-30. */
    private static Probe nearest() {
        Probe x = new Probe();
        // (1000 x - 1) (1 + x^2) - x^5, (1000 x - 1) (1 + x^2 + x^4) - x^5
        add(x, -1, 1000, -1, 1000, 0, -1);
        add(x, -1, 1000, -1, 1000, -1, 999);
        return x;
    }

    private static void signsVeryNear() {
        says("Promise 11: -1, 0, 1, where the roots are very near");
        Probe x = nearest();
        due(x.sign(1, 0, 1), 1);
        due(x.sign(0, 1, 0), -1);
        int line = add(x, -1, 1000);
        due(x.sign(line, 0, 1), 1);
        due(x.sign(line, 1, 0), 1);
        due(x.sign(0, line, 0), -1);
        int five = add(x, -1, 1000, 0, 0, 0, 1);
        due(x.sign(line, five, 0), -1);
        due(x.sign(five, line, 0), 1);
        // (1000 x - 1) x: the same root, so 0
        int more = add(x, 0, -1, 1000);
        due(x.sign(line, more, 1), 0);
        due(x.sign(more, line, 0), 0);
        due(x.sign(line, more, 0), -1);
    }

    private static void compareRefuses() {
        says("Promise 12: -9 unknown");
        Probe x = new Probe();
        due(x.compare(0, 0, 0, 0), -9);
        int zero = x.polynomial();
        int p = add(x, -2, 0, 1);
        int plain = add(x, 7);
        String before = state(x);
        due(x.compare(p, 1, p, 1), 0);
        for (int q : new int[] {zero, plain, 3, -1, 12, LOW, HIGH}) {
            due(x.compare(q, 0, p, 0), -9);
            due(x.compare(p, 0, q, 0), -9);
            due(x.compare(q, 0, q, 0), -9);
        }
        for (int i : new int[] {2, -1, 5, LOW, HIGH}) {
            due(x.compare(p, i, p, 0), -9);
            due(x.compare(p, 0, p, i), -9);
            due(x.compare(p, i, p, i), -9);
        }
        unchanged(x, before);
    }

    private static void compareVeryNear() {
        says("Promise 12: -1 less, 0 the same, 1 greater, where the roots are very near");
        Probe x = nearest();
        due(x.compare(0, 1, 1, 0), 1);
        due(x.compare(1, 0, 0, 1), -1);
        due(x.floor(0, 1, 40), x.floor(1, 0, 40));
        int line = add(x, -1, 1000);
        int five = add(x, -1, 1000, 0, 0, 0, 1);
        due(x.compare(line, 0, five, 0), 1);
        due(x.compare(five, 0, line, 0), -1);
        due(x.compare(line, 0, 0, 1), -1);
        // the same root in one with another sign, and once more in its square times -1
        int back = add(x, 1, -1000);
        due(x.compare(line, 0, back, 0), 0);
        int c = add(x, -2, 0, 1);
        int d = add(x, -4, 0, 4, 0, -1);
        due(x.compare(c, 0, d, 0), 0);
        due(x.compare(d, 1, c, 1), 0);
        due(x.compare(d, 0, c, 1), -1);
        due(x.compare(c, 1, d, 0), 1);
    }

    private static void rankRefuses() {
        says("Promise 13: how many real numbers below ROOT i of p are ROOTS of some polynomial (not ZERO). -1");
        Probe x = new Probe();
        due(x.rank(0, 0), -1);
        int zero = x.polynomial();
        due(x.rank(zero, 0), -1);
        int p = add(x, -2, 0, 1);
        int plain = add(x, 7);
        String before = state(x);
        due(x.rank(p, 0), 0);
        due(x.rank(p, 1), 1);
        for (int i : new int[] {2, -1, 5, LOW, HIGH}) {
            due(x.rank(p, i), -1);
        }
        for (int q : new int[] {zero, plain, 3, -1, 12, LOW, HIGH}) {
            due(x.rank(q, 0), -1);
        }
        unchanged(x, before);
    }

    private static void rankCountsOnce() {
        says("Promise 13: how many real numbers below ROOT i of p: each once, the ROOT itself is not below");
        Probe x = new Probe();
        int p = add(x, 0, 4, 0, -5, 0, 1);
        due(x.rank(p, 0), 0);
        due(x.rank(p, 4), 4);
        int q = add(x, 0, 4, 0, -5, 0, 1);
        due(x.rank(p, 4), 4);
        due(x.rank(q, 4), 4);
        // -3 with a ROOT that comes again, and 2 once more
        int r = add(x, 9, 6, 1);
        due(x.rank(r, 0), 0);
        due(x.rank(p, 0), 1);
        due(x.rank(q, 4), 5);
        int s = add(x, -2, 1);
        due(x.rank(s, 0), 5);
        due(x.set(s, 1, 0), 1001);
        due(x.rank(p, 4), 5);
        due(x.set(s, 0, 0), 998);
        due(x.rank(p, 4), 5);
        due(x.rank(s, 0), -1);
        Probe y = nearest();
        due(y.rank(1, 0), 1);
        due(y.rank(0, 1), 2);
        due(y.rank(0, 2), 3);
        due(y.all(), 4);
    }

    private static void sixtyRoots() {
        says("Promises 13, 20: 12 polynomials with five ROOTS each");
        Probe x = new Probe();
        for (int p = 0; p < 12; p++) {
            add(x, p + 1, -1000 + p, 1000, 1000 - p, -1000, 1);
            due(x.roots(p), 5);
        }
        due(x.all(), 60);
        boolean[] seen = new boolean[60];
        for (int p = 0; p < 12; p++) {
            for (int i = 0; i < 5; i++) {
                int rank = x.rank(p, i);
                due(rank >= 0 && rank < 60 && !seen[rank] ? 1 : 0, 1);
                seen[rank >= 0 && rank < 60 ? rank : 0] = true;
            }
        }
        due(x.all(), 60);
    }

    private static void betweenEnds() {
        says("Promise 14: above n / d, and not above m / e");
        Probe x = new Probe();
        // 1 / 3 and 2 / 3, twice
        int p = add(x, 4, -36, 117, -162, 81);
        due(x.roots(p), 2);
        due(x.between(p, 333333, 1000000, 333334, 1000000), 1);
        due(x.between(p, 333333, 999999, 333334, 1000000), 0);
        due(x.between(p, 333333, 1000000, 333333, 999999), 1);
        due(x.between(p, 333332, 999999, 333333, 1000000), 0);
        due(x.between(p, 1, 3, 2, 3), 1);
        due(x.between(p, 0, 1, 1, 3), 1);
        due(x.between(p, 0, 1, 2, 3), 2);
        due(x.between(p, 2, 3, 1000000, 1), 0);
        due(x.between(p, -1000000, 1, 1, 3), 1);
        due(x.between(p, -1000000, 1, 1000000, 1), 2);
        due(x.between(add(x, 5), -1000000, 1, 1000000, 1), 0);
        due(x.between(add(x, 1, 0, 1), -1000000, 1, 1000000, 1), 0);
    }

    private static void betweenTurned() {
        says("Promise 14: -2 (also m / e below n / d)");
        Probe x = new Probe();
        int p = add(x, 0, 1);
        int zero = x.polynomial();
        String before = state(x);
        for (int q : new int[] {p, zero}) {
            due(x.between(q, 1, 999999, 1, 1000000), -2);
            due(x.between(q, -1, 1000000, -1, 999999), -2);
            due(x.between(q, 1, 1, 999999, 1000000), -2);
            due(x.between(q, 1000000, 999999, 1, 1), -2);
            due(x.between(q, 1000000, 1, -1000000, 1), -2);
            due(x.between(q, 999999, 1000000, 999998, 999999), -2);
            due(x.between(q, 1, 1, 0, 1), -2);
            due(x.between(q, 0, 1, -1, 1000000), -2);
        }
        unchanged(x, before);
        due(x.between(p, 1, 1000000, 1, 999999), 0);
        due(x.between(p, -1, 999999, -1, 1000000), 0);
        due(x.between(p, 999998, 999999, 999999, 1000000), 0);
        due(x.between(p, -1, 1000000, 0, 1), 1);
        // the same number, told in two ways
        due(x.between(p, 1, 1000000, 1, 1000000), 0);
        due(x.between(p, 500000, 1000000, 1, 2), 0);
        due(x.between(p, 0, 1, 0, 1000000), 0);
        due(x.between(p, 0, 1000000, 0, 1), 0);
    }

    private static void betweenRefuses() {
        says("Promise 14: -1; -2; -3");
        Probe x = new Probe();
        due(x.between(0, 0, 1, 1, 1), -1);
        int zero = x.polynomial();
        String before = state(x);
        due(x.between(zero, 0, 1, 1, 1), -3);
        due(x.between(zero, 1, 1, 1, 1), -3);
        for (int p : new int[] {1, -1, 12, LOW, HIGH}) {
            due(x.between(p, 0, 1, 1, 1), -1);
            due(x.between(p, 1, 1, 0, 1), -1);
            due(x.between(p, 0, 0, 1, 1), -1);
            due(x.between(p, 0, 1, 1, 1000001), -1);
        }
        unchanged(x, before);
        due(x.set(zero, 0, 1), 1000);
        due(x.between(zero, 0, 1, 1, 1), 0);
    }

    private static void changesRefuses() {
        says("Promise 15: -1; -2; -3");
        Probe x = new Probe();
        due(x.changes(0, 0, 1), -1);
        int zero = x.polynomial();
        String before = state(x);
        due(x.changes(zero, 0, 1), -3);
        due(x.changes(zero, 1000000, 1000000), -3);
        due(x.changes(zero, 1000001, 1000000), -2);
        due(x.changes(zero, 1000000, 1000001), -2);
        for (int p : new int[] {1, -1, 12, LOW, HIGH}) {
            due(x.changes(p, 0, 1), -1);
            due(x.changes(p, 0, 0), -1);
            due(x.changes(p, 1000001, 1), -1);
        }
        unchanged(x, before);
        due(x.set(zero, 0, 1), 1000);
        due(x.changes(zero, 0, 1), 0);
        due(x.set(zero, 0, 0), 1001);
        due(x.changes(zero, 0, 1), -3);
    }

    private static void rowRefuses() {
        says("Promise 16: how many polynomials the SIGN ROW has. -1; -3");
        Probe x = new Probe();
        due(x.row(0), -1);
        int p = x.polynomial();
        String before = state(x);
        due(x.row(p), -3);
        for (int q : new int[] {1, -1, 12, LOW, HIGH}) {
            due(x.row(q), -1);
        }
        unchanged(x, before);
        due(x.set(p, 0, 1), 1000);
        due(x.row(p), 1);
        due(x.set(p, 1, 1), 1000);
        due(x.row(p), 2);
        due(x.set(p, 0, 0), 1001);
        due(x.row(p), 2);
        due(x.set(p, 1, 0), 1001);
        due(x.row(p), -3);
        due(x.row(add(x, 0, 4, 0, -5, 0, 1)), 6);
    }

    private static void atRefuses() {
        says("Promise 17: the sign at n / d. -9 unknown; -8 the fraction");
        Probe x = new Probe();
        due(x.at(0, 0, 1), -9);
        due(x.at(0, 0, 0), -9);
        int zero = x.polynomial();
        String before = state(x);
        due(x.at(zero, 0, 1), 0);
        due(x.at(zero, 1000000, 1), 0);
        due(x.at(zero, 1000001, 1), -8);
        due(x.at(zero, 0, 0), -8);
        for (int p : new int[] {1, -1, 12, LOW, HIGH}) {
            due(x.at(p, 0, 1), -9);
            due(x.at(p, 1000001, 1), -9);
            due(x.at(p, 1, 0), -9);
        }
        unchanged(x, before);
    }

    private static void signsAtTheBounds() {
        says("Promise 17: -1, 0, 1, at the greatest and least FRACTIONS");
        Probe x = new Probe();
        int p = add(x, 1000, 1000, 1000, 1000, 1000, 1000);
        int q = x.make(7, p, 0);
        due(x.at(p, 1000000, 1), 1);
        due(x.at(p, -1000000, 1), -1);
        due(x.at(q, 1000000, 1), -1);
        due(x.at(q, -1000000, 1), 1);
        due(x.at(p, -1000000, 1000000), 0);
        due(x.at(p, -1000000, 999999), -1);
        due(x.at(p, -999999, 1000000), 1);
        // 999999 / 1000000 is between 0 and 1, where x^5 - x is below 0
        int r = add(x, 0, -1, 0, 0, 0, 1);
        due(x.at(r, 999999, 1000000), -1);
        due(x.at(r, 1000000, 999999), 1);
        due(x.at(r, 1, 1000000), -1);
        due(x.at(r, -1, 1000000), 1);
        due(x.at(r, 0, 1000000), 0);
    }

    private static void newtonRefuses() {
        says("Promise 18: -4000000000000000000 unknown; -4000000000000000001 the fraction, or what");
        Probe x = new Probe();
        due(x.newton(0, 0, 1, 0), UNKNOWN);
        int p = add(x, -2, 0, 1);
        due(x.newton(p, 3, 2, 0), 17);
        due(x.newton(p, 3, 2, 1), 12);
        String before = state(x);
        for (int what : new int[] {-1, 2, 3, LOW, HIGH}) {
            due(x.newton(p, 3, 2, what), OUTSIDE);
            // there the derivative is 0: what is looked at first
            due(x.newton(p, 0, 1, what), OUTSIDE);
            due(x.newton(p, 3, 0, what), OUTSIDE);
            due(x.newton(1, 3, 2, what), UNKNOWN);
        }
        for (int q : new int[] {1, -1, 12, LOW, HIGH}) {
            due(x.newton(q, 3, 2, 0), UNKNOWN);
            due(x.newton(q, 3, 0, 0), UNKNOWN);
            due(x.newton(q, 1000001, 1, 1), UNKNOWN);
        }
        due(x.newton(p, 0, 0, 0), OUTSIDE);
        due(x.newton(p, 0, 1000001, 0), OUTSIDE);
        due(x.newton(p, 0, 1000000, 0), THROWN);
        unchanged(x, before);
    }

    private static void newtonThrows() {
        says("Promise 18: ArithmeticException: the derivative is 0 there");
        Probe x = new Probe();
        int zero = x.polynomial();
        int plain = add(x, 1000);
        // 4 x^3 - 3 x: 12 x^2 - 3 is 0 at 1 / 2 and -1 / 2
        int p = add(x, 0, -3, 0, 4);
        String before = state(x);
        for (int what = 0; what < 2; what++) {
            due(x.newton(zero, 0, 1, what), THROWN);
            due(x.newton(zero, 1000000, 1000000, what), THROWN);
            due(x.newton(plain, -7, 3, what), THROWN);
            due(x.newton(p, 1, 2, what), THROWN);
            due(x.newton(p, -1, 2, what), THROWN);
            due(x.newton(p, 500000, 1000000, what), THROWN);
        }
        unchanged(x, before);
        // elsewhere, also very near, there is a step: 8 x^3 / (12 x^2 - 3)
        due(x.newton(p, 2, 1, 0), 64);
        due(x.newton(p, 2, 1, 1), 45);
        due(x.newton(p, 499999, 1000000, 0) == THROWN ? 1 : 0, 0);
        due(x.newton(p, 500000, 999999, 0) == THROWN ? 1 : 0, 0);
        // where the polynomial is 0 and its derivative too: 0 / 0
        int square = add(x, 1, -2, 1);
        due(x.newton(square, 1, 1, 0), THROWN);
        due(x.newton(square, 3, 1, 0), 2);
        due(x.newton(square, 3, 1, 1), 1);
        // a derivative with COEFFICIENTS beyond the bounds, 5000 x^4 - 4000 x^3, is one all the same
        int great = add(x, 1, 0, 0, 0, -1000, 1000);
        due(x.newton(great, 4, 5, 0), THROWN);
        due(x.newton(great, 0, 1, 1), THROWN);
        due(x.newton(great, 1, 1, 0), 999);
        due(x.newton(great, 1, 1, 1), 1000);
    }

    private static void newtonUpperBeyond() {
        says("Promise 18: -4000000000000000004 the upper number is beyond 10^18 in size");
        Probe x = new Probe();
        // 500 x^3 + x + c at 10^5: (10^18 - c) / 15000000000001
        int p = add(x, 0, 1, 0, 500);
        due(x.newton(p, 100000, 1, 0), FULL);
        due(x.newton(p, 100000, 1, 1), 15000000000001L);
        due(x.newton(p, -100000, 1, 0), -FULL);
        due(x.newton(p, -100000, 1, 1), 15000000000001L);
        due(x.set(p, 0, 1), 1000);
        due(x.newton(p, 100000, 1, 0), FULL - 1);
        due(x.newton(p, 100000, 1, 1), 15000000000001L);
        String before = state(x);
        due(x.newton(p, -100000, 1, 0), BEYOND);
        due(x.newton(p, -100000, 1, 1), BEYOND);
        unchanged(x, before);
        due(x.set(p, 0, -1), 1001);
        due(x.newton(p, 100000, 1, 0), BEYOND);
        due(x.newton(p, 100000, 1, 1), BEYOND);
        due(x.newton(p, -100000, 1, 0), 1 - FULL);
        // what stands in lowest terms counts: x^5 leads to 4 / 5 of where it is, by way of far greater numbers
        int q = add(x, 0, 0, 0, 0, 0, 1000);
        due(x.newton(q, 100000, 1, 0), 80000);
        due(x.newton(q, 100000, 1, 1), 1);
        due(x.newton(q, 1000000, 999999, 0), 800000);
        due(x.newton(q, 1000000, 999999, 1), 999999);
    }

    private static void newtonLowerBeyond() {
        says("Promise 18: -4000000000000000004 the lower number is beyond 10^18");
        Probe x = new Probe();
        int p = add(x, -139, 143, 30, 915, 14);
        due(x.newton(p, 44, 9139, 0), 969644013284798491L);
        due(x.newton(p, 44, 9139, 1), FULL - 1);
        int q = add(x, -3, 619, -752, 32, 24, 625);
        due(x.newton(q, 3029, 3125, 0), 742533489108865131L);
        due(x.newton(q, 3029, 3125, 1), FULL);
        // 999497802158116004 / (10^18 + 1)
        int r = add(x, -104, 101, 303, 0, -606);
        String before = state(x);
        due(x.newton(r, 50, 9901, 0), BEYOND);
        due(x.newton(r, 50, 9901, 1), BEYOND);
        unchanged(x, before);
        // and with every sign turned
        int s = add(x, 104, -101, -303, 0, 606);
        due(x.newton(s, 50, 9901, 0), BEYOND);
        int t = add(x, 139, -143, -30, -915, -14);
        due(x.newton(t, 44, 9139, 0), 969644013284798491L);
        due(x.newton(t, 44, 9139, 1), FULL - 1);
        // both numbers as great as they come
        int u = add(x, 999, 998, 997, 996, 995, 1000);
        due(x.newton(u, 999999, 1000000, 0), BEYOND);
        due(x.newton(u, -1000000, 999999, 1), BEYOND);
        due(x.newton(u, 1000000, 1, 0), BEYOND);
    }

    private static void newtonLowestTerms() {
        says("Promise 18: in lowest terms, its upper number (what = 0), lower (1)");
        Probe x = new Probe();
        int p = add(x, 0, -1000);
        // to 0, which is 0 / 1
        due(x.newton(p, 1000000, 999999, 0), 0);
        due(x.newton(p, 1000000, 999999, 1), 1);
        due(x.newton(p, -1, 1000000, 0), 0);
        due(x.newton(p, -1, 1000000, 1), 1);
        // to -2, and to -1 / 2, from where the derivative is below 0
        int q = add(x, -4, -2);
        due(x.newton(q, 6, 4, 0), -2);
        due(x.newton(q, 6, 4, 1), 1);
        int r = add(x, 500, 1000);
        due(x.newton(r, 7, 7, 0), -1);
        due(x.newton(r, 7, 7, 1), 2);
        // x^2 - 2 from 10 / 15
        int s = add(x, -2, 0, 1);
        due(x.newton(s, 10, 15, 0), 11);
        due(x.newton(s, 10, 15, 1), 6);
        due(x.newton(s, -10, 15, 0), -11);
        due(x.newton(s, -10, 15, 1), 6);
    }

    private static void boundRefuses() {
        says("Promise 19: -1; -3; 0 without ROOTS");
        Probe x = new Probe();
        due(x.bound(0), -1);
        int p = x.polynomial();
        String before = state(x);
        due(x.bound(p), -3);
        for (int q : new int[] {1, -1, 12, LOW, HIGH}) {
            due(x.bound(q), -1);
        }
        unchanged(x, before);
        due(x.set(p, 0, -1000), 1000);
        due(x.bound(p), 0);
        due(x.set(p, 2, -1), 1000);
        due(x.bound(p), 0);
        due(x.set(p, 0, 0), 0);
        // the ROOT 0 has the bound 0 as well
        due(x.bound(p), 0);
        due(x.set(p, 2, 0), 999);
        due(x.bound(p), -3);
    }

    private static void leastBound() {
        says("Promise 19: the least whole number b so that all ROOTS are from -b to b");
        Probe x = new Probe();
        int p = add(x, 0, 500);
        // c / 500: just at a whole number, and just off it
        int[] above = {0, 1, 499, 500, 501, 999, 1000};
        int[] due = {0, 1, 1, 1, 2, 2, 2};
        for (int k = 0; k < above.length; k++) {
            x.set(p, 0, -above[k]);
            due(x.bound(p), due[k]);
            x.set(p, 0, above[k]);
            due(x.bound(p), due[k]);
        }
        // -3 and 2, -2 and 3, -3 and 3
        due(x.bound(add(x, -6, 1, 1)), 3);
        due(x.bound(add(x, -6, -1, 1)), 3);
        due(x.bound(add(x, -9, 0, 1)), 3);
        // the roots of 10, and both on one side: 2 and 3, -3 and -2
        due(x.bound(add(x, -10, 0, 1)), 4);
        due(x.bound(add(x, 6, -5, 1)), 3);
        due(x.bound(add(x, 6, 5, 1)), 3);
        due(x.bound(add(x, -1000, 1)), 1000);
        due(x.bound(add(x, 1000, 1)), 1000);
        int far = add(x, -1000, -1000, -1000, -1000, -1000, 1);
        due(x.bound(far), 1001);
        due(x.bound(x.make(7, far, 0)), 1001);
        // 1 / 1000 less 10^-18
        due(x.bound(add(x, -1, 1000, 0, 0, 0, 1)), 1);
        due(x.count(), 12);
    }

    private static void boundOfNearWholes() {
        says("Promise 19: the least whole number b, where a ROOT is no fraction and very near a whole number");
        Probe x = new Probe();
        // 1000 x^5 - 999 x^4 - 1 has 1; 1000 x^5 - 999 x^4 - 2 a little more
        int p = add(x, -1, 0, 0, 0, -999, 1000);
        due(x.bound(p), 1);
        due(x.set(p, 0, -2), 999);
        due(x.bound(p), 2);
        int q = x.make(7, p, 0);
        due(x.bound(q), 2);
        due(x.set(q, 0, -1), 998);
        due(x.bound(q), 1);
        due(x.set(p, 0, 0), 998);
        due(x.bound(p), 1);
    }

    private static void allOfNone() {
        says("Promise 20: how many ROOTS all polynomials there are (not ZERO) have together");
        Probe x = new Probe();
        due(x.all(), 0);
        int zero = x.polynomial();
        due(x.all(), 0);
        int plain = add(x, 5);
        due(x.all(), 0);
        due(x.set(plain, 1, 1), 1000);
        due(x.all(), 1);
        due(x.set(zero, 2, 1), 1000);
        due(x.all(), 2);
        due(x.set(zero, 2, 0), 1001);
        due(x.all(), 1);
        due(x.polynomial(), 2);
        due(x.all(), 1);
    }

    private static void allOnce() {
        says("Promise 20: each real number once");
        Probe x = new Probe();
        for (int p = 0; p < 12; p++) {
            add(x, 0, 4, 0, -5, 0, 1);
            due(x.all(), 5);
        }
        // x (x^2 - 2)^2, the same ROOT as a fraction and three new ones
        due(x.set(11, 1, 0), 1004);
        due(x.set(11, 3, -1), 995);
        due(x.all(), 5);
        due(x.set(11, 3, -2), 999);
        due(x.all(), 7);
        due(x.set(11, 1, 4), 1000);
        due(x.set(11, 3, -4), 998);
        due(x.all(), 7);
        Probe y = nearest();
        due(y.all(), 4);
        add(y, -1, 1000);
        due(y.all(), 5);
        add(y, 1, -1000);
        due(y.all(), 5);
    }

    private static void countOfRefused() {
        says("Promise 21: how many polynomials: a refused call adds none");
        Probe x = new Probe();
        due(x.count(), 0);
        due(x.make(0, 0, 0), -1);
        due(x.set(0, 0, 0), -1);
        due(x.count(), 0);
        for (int p = 0; p < 11; p++) {
            due(x.polynomial(), p);
            due(x.make(5, p, 0), -3);
            due(x.make(6, p, 1001), -2);
            due(x.make(10, p, 0), -1);
            due(x.set(p, 5, 1000), 1000);
            due(x.make(0, p, p), -4);
            due(x.count(), p + 1);
        }
        due(x.make(4, 0, 1), 11);
        due(x.count(), 12);
        due(x.make(4, 0, 1), -4);
        due(x.polynomial(), -4);
        due(x.count(), 12);
    }

    private static void terms() {
        fiveHundredAndTwelveCalls();
        numbersOfPolynomials();
        unknownPolynomials();
        lastKnownPolynomial();
        coefficientsOfSixPowers();
        coefficientsFromMinus1000To1000();
        degreeOfZero();
        fractionsWithinBounds();
        fractionsOutOfBounds();
        fractionsNotInLowestTerms();
        primitive();
        goesInto();
        divisorWithZero();
        rootsOnceFromTheLeast();
        timesToThePower();
        signRowEnds();
        changesLeaveOutNulls();
        firstThatFits();
        unknownRoots();
    }

    private static void promisesOneToFive() {
        newObject();
        newPolynomialIsZero();
        noRoomForPolynomial();
        setTellsWhatItWas();
        setRefuses();
        coefficientOfOthers();
        makeOfUnknownKind();
        makeOfUnknownPolynomials();
        makeWithAnythingForB();
        makeWithNumberForB();
        makeOfZero();
        noRoomForMade();
        sumsAtTheBounds();
        productsAtTheBounds();
        greatestProducts();
        derivativesAtTheBounds();
        divisorsAtTheBounds();
        freePartsAtTheBounds();
        movedAtTheBounds();
        turnedRound();
        stretchedAtTheBounds();
        makeLeavesTheOthers();
    }

    private static void promisesSixToThirteen() {
        degreeOfUnknown();
        rootsRefuses();
        fewestAndMostRoots();
        timesRefuses();
        floorBits();
        floorOfUnknown();
        floorNotAbove();
        fractionWhat();
        fractionOfUnknown();
        fractionOrNone();
        signOfZero();
        signsVeryNear();
        compareRefuses();
        compareVeryNear();
        rankRefuses();
        rankCountsOnce();
        sixtyRoots();
    }

    private static void promisesFourteenToTwentyOne() {
        betweenEnds();
        betweenTurned();
        betweenRefuses();
        changesRefuses();
        rowRefuses();
        atRefuses();
        signsAtTheBounds();
        newtonRefuses();
        newtonThrows();
        newtonUpperBeyond();
        newtonLowerBeyond();
        newtonLowestTerms();
        boundRefuses();
        leastBound();
        boundOfNearWholes();
        allOfNone();
        allOnce();
        countOfRefused();
    }

    public static void main(String[] args) {
        terms();
        promisesOneToFive();
        promisesSixToThirteen();
        promisesFourteenToTwentyOne();
        System.out.println(wrong == 0 ? "all answers are as due" : wrong + " answers are not as due");
        if (wrong != 0) {
            System.exit(1);
        }
    }
}
