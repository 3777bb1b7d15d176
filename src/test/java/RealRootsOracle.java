import java.math.BigInteger;
import java.util.ArrayList;
import java.util.HashMap;
import java.util.List;
import java.util.TreeSet;

/** Long runs of calls, each answer held against a slow program of another make. */
public final class RealRootsOracle {
    private static final BigInteger ZERO = BigInteger.ZERO;
    private static final BigInteger ONE = BigInteger.ONE;
    /** Two different roots that meet in a question are more than 2^-250 apart. */
    private static final int DEEP = 300;
    private static final long UNKNOWN = -4000000000000000000L;
    private static final long THROWN = 7777777777777777777L;

    private static long seed = 20261115;
    private static int wrong = 0;
    /** Of the object of this run; the document allows 512. */
    private static int calls = 0;
    private static final HashMap<String, List<BigInteger>> KNOWN_ROOTS = new HashMap<>();

    // ---- the slow program

    private static final class Slow {
        final List<BigInteger[]> all = new ArrayList<>();

        boolean unknown(int p) {
            return p < 0 || p >= all.size();
        }

        List<BigInteger> rootsOf(int p) {
            return unknown(p) ? new ArrayList<>() : RealRootsOracle.rootsOf(all.get(p));
        }

        boolean noRoot(int p, int i) {
            return i < 0 || i >= rootsOf(p).size();
        }

        long keep(BigInteger[] a) {
            for (int k = 0; k < a.length; k++) {
                if (a[k].abs().intValueExact() > 1000 || (k > 5 && a[k].signum() != 0)) {
                    return -4;
                }
            }
            if (all.size() == 12) {
                return -4;
            }
            BigInteger[] six = zeros(6);
            System.arraycopy(a, 0, six, 0, Math.min(6, a.length));
            all.add(six);
            return all.size() - 1;
        }

        long set(int p, int power, int v) {
            if (unknown(p)) {
                return -1;
            }
            if (power < 0 || power > 5 || v < -1000 || v > 1000) {
                return -2;
            }
            long was = all.get(p)[power].longValue() + 1000;
            all.get(p)[power] = BigInteger.valueOf(v);
            return was;
        }

        long coefficient(int p, int power) {
            return unknown(p) || power < 0 || power > 5 ? 0 : all.get(p)[power].longValue();
        }

        long make(int kind, int a, int b) {
            boolean two = kind >= 0 && kind <= 2 || kind == 4;
            if (kind < 0 || kind > 9 || unknown(a) || two && unknown(b)) {
                return -1;
            }
            if ((kind == 6 || kind == 9) && (b < -1000 || b > 1000)) {
                return -2;
            }
            BigInteger[] x = all.get(a);
            if ((kind == 5 || kind == 8) && top(x) < 0) {
                return -3;
            }
            BigInteger[] y = two ? all.get(b) : new BigInteger[] {BigInteger.valueOf(b), ONE};
            try {
                return keep(made(kind, x, y, BigInteger.valueOf(b)));
            } catch (ArithmeticException beyondInt) {
                return -4;
            }
        }

        BigInteger[] made(int kind, BigInteger[] x, BigInteger[] y, BigInteger b) {
            switch (kind) {
                case 0:
                    return plus(x, y, ONE);
                case 1:
                    return plus(x, y, ONE.negate());
                case 2:
                    return times(x, y);
                case 3:
                    return slope(x);
                case 4:
                    return common(x, y);
                case 5:
                    return primitive(quotient(x, common(x, slope(x))));
                case 6:
                    return inside(x, y);
                case 7:
                    return inside(x, new BigInteger[] {ZERO, ONE.negate()});
                case 8:
                    BigInteger[] turned = zeros(6);
                    for (int k = 0; k <= top(x); k++) {
                        turned[k] = x[top(x) - k];
                    }
                    return turned;
                default:
                    return inside(x, new BigInteger[] {ZERO, b});
            }
        }

        long timesOf(int p, int i) {
            if (noRoot(p, i)) {
                return -1;
            }
            BigInteger place = rootsOf(p).get(i);
            BigInteger[] d = slope(all.get(p));
            int n = 1;
            while (RealRootsOracle.rootsOf(d).contains(place)) {
                d = slope(d);
                n++;
            }
            return n;
        }

        long floor(int p, int i, int bits) {
            if (noRoot(p, i)) {
                return UNKNOWN;
            }
            return bits < 0 || bits > 40 ? UNKNOWN - 1 : rootsOf(p).get(i).shiftRight(DEEP - bits).longValueExact();
        }

        long fraction(int p, int i, int what) {
            if (noRoot(p, i)) {
                return UNKNOWN;
            }
            if (what != 0 && what != 1) {
                return UNKNOWN - 1;
            }
            BigInteger place = rootsOf(p).get(i);
            for (int d = 1; d <= 1000; d++) {
                BigInteger big = BigInteger.valueOf(d);
                BigInteger n = place.multiply(big).add(ONE.shiftLeft(DEEP - 1)).shiftRight(DEEP);
                if (value(all.get(p), n, big).signum() == 0 && floorOf(n, big).equals(place)) {
                    return what == 0 ? n.longValueExact() : d;
                }
            }
            return 0;
        }

        long sign(int q, int p, int i) {
            if (unknown(q) || noRoot(p, i)) {
                return -9;
            }
            BigInteger place = rootsOf(p).get(i);
            return rootsOf(q).contains(place) ? 0 : value(all.get(q), place, ONE.shiftLeft(DEEP)).signum();
        }

        long compare(int p, int i, int q, int j) {
            return noRoot(p, i) || noRoot(q, j) ? -9 : rootsOf(p).get(i).compareTo(rootsOf(q).get(j));
        }

        TreeSet<BigInteger> together() {
            TreeSet<BigInteger> all60 = new TreeSet<>();
            for (int p = 0; p < all.size(); p++) {
                all60.addAll(rootsOf(p));
            }
            return all60;
        }

        long rank(int p, int i) {
            return noRoot(p, i) ? -1 : together().headSet(rootsOf(p).get(i)).size();
        }

        boolean outside(int n, int d) {
            return n < -1000000 || n > 1000000 || d < 1 || d > 1000000;
        }

        long between(int p, int n, int d, int m, int e) {
            if (unknown(p)) {
                return -1;
            }
            if (outside(n, d) || outside(m, e) || (long) n * e > (long) m * d) {
                return -2;
            }
            return top(all.get(p)) < 0 ? -3 : upTo(p, m, e) - upTo(p, n, d);
        }

        int upTo(int p, int n, int d) {
            BigInteger place = floorOf(BigInteger.valueOf(n), BigInteger.valueOf(d));
            int found = 0;
            for (BigInteger root : rootsOf(p)) {
                found += root.compareTo(place) <= 0 ? 1 : 0;
            }
            return found;
        }

        long changes(int p, int n, int d) {
            if (unknown(p)) {
                return -1;
            }
            if (outside(n, d)) {
                return -2;
            }
            return top(all.get(p)) < 0 ? -3 : turns(signRow(all.get(p)), BigInteger.valueOf(n), BigInteger.valueOf(d));
        }

        long row(int p) {
            return unknown(p) ? -1 : top(all.get(p)) < 0 ? -3 : signRow(all.get(p)).size();
        }

        long at(int p, int n, int d) {
            return unknown(p) ? -9 : outside(n, d) ? -8
                : value(all.get(p), BigInteger.valueOf(n), BigInteger.valueOf(d)).signum();
        }

        long newton(int p, int n, int d, int what) {
            if (unknown(p)) {
                return UNKNOWN;
            }
            if (outside(n, d) || what < 0 || what > 1) {
                return UNKNOWN - 1;
            }
            BigInteger x = BigInteger.valueOf(n);
            BigInteger y = BigInteger.valueOf(d);
            // value() is by y^5 too great
            BigInteger under = value(slope(all.get(p)), x, y);
            if (under.signum() == 0) {
                return THROWN;
            }
            BigInteger upper = x.multiply(under).subtract(y.multiply(value(all.get(p), x, y)));
            BigInteger lower = y.multiply(under);
            BigInteger g = upper.gcd(lower).multiply(BigInteger.valueOf(lower.signum()));
            upper = upper.divide(g);
            lower = lower.divide(g);
            BigInteger most = BigInteger.TEN.pow(18);
            if (upper.abs().compareTo(most) > 0 || lower.compareTo(most) > 0) {
                return UNKNOWN - 4;
            }
            return (what == 0 ? upper : lower).longValueExact();
        }

        long bound(int p) {
            if (unknown(p)) {
                return -1;
            }
            if (top(all.get(p)) < 0) {
                return -3;
            }
            for (int b = 0;; b++) {
                boolean holds = true;
                for (BigInteger root : rootsOf(p)) {
                    BigInteger end = BigInteger.valueOf(b).shiftLeft(DEEP);
                    holds &= root.compareTo(end) <= 0 && root.compareTo(end.negate()) >= 0;
                }
                if (holds) {
                    return b;
                }
            }
        }
    }

    // ---- polynomials with BigIntegers

    private static BigInteger[] zeros(int n) {
        BigInteger[] a = new BigInteger[n];
        java.util.Arrays.fill(a, ZERO);
        return a;
    }

    private static int top(BigInteger[] a) {
        int t = a.length - 1;
        while (t >= 0 && a[t].signum() == 0) {
            t--;
        }
        return t;
    }

    private static BigInteger[] plus(BigInteger[] a, BigInteger[] b, BigInteger by) {
        BigInteger[] c = zeros(Math.max(a.length, b.length));
        for (int k = 0; k < c.length; k++) {
            c[k] = (k < a.length ? a[k] : ZERO).add((k < b.length ? b[k] : ZERO).multiply(by));
        }
        return c;
    }

    private static BigInteger[] times(BigInteger[] a, BigInteger[] b) {
        BigInteger[] c = zeros(a.length + b.length);
        for (int k = 0; k < a.length; k++) {
            for (int j = 0; j < b.length; j++) {
                c[k + j] = c[k + j].add(a[k].multiply(b[j]));
            }
        }
        return c;
    }

    private static BigInteger[] slope(BigInteger[] a) {
        BigInteger[] c = zeros(a.length);
        for (int k = 1; k < a.length; k++) {
            c[k - 1] = a[k].multiply(BigInteger.valueOf(k));
        }
        return c;
    }

    private static BigInteger[] inside(BigInteger[] a, BigInteger[] x) {
        BigInteger[] c = zeros(1);
        for (int k = a.length - 1; k >= 0; k--) {
            c = plus(times(c, x), new BigInteger[] {a[k]}, ONE);
        }
        return c;
    }

    /** By the content, the sign as it was. */
    private static BigInteger[] lessened(BigInteger[] a) {
        BigInteger g = ZERO;
        for (BigInteger v : a) {
            g = g.gcd(v);
        }
        BigInteger[] c = a.clone();
        for (int k = 0; k < c.length && g.signum() != 0; k++) {
            c[k] = c[k].divide(g);
        }
        return c;
    }

    private static BigInteger[] primitive(BigInteger[] a) {
        BigInteger[] c = lessened(a);
        return top(c) >= 0 && c[top(c)].signum() < 0 ? plus(zeros(1), c, ONE.negate()) : c;
    }

    /** A number above 0 times the remainder of a by b. */
    private static BigInteger[] rest(BigInteger[] a, BigInteger[] b) {
        BigInteger[] r = a.clone();
        BigInteger lead = b[top(b)];
        while (top(r) >= top(b)) {
            BigInteger[] part = zeros(r.length);
            for (int k = 0; k <= top(b); k++) {
                part[k + top(r) - top(b)] = b[k].multiply(r[top(r)]).multiply(lead);
            }
            BigInteger[] much = r.clone();
            for (int k = 0; k < much.length; k++) {
                much[k] = much[k].multiply(lead).multiply(lead);
            }
            r = lessened(plus(much, part, ONE.negate()));
        }
        return r;
    }

    private static BigInteger[] common(BigInteger[] a, BigInteger[] b) {
        BigInteger[] x = a;
        BigInteger[] y = b;
        while (top(y) >= 0) {
            BigInteger[] r = rest(x, y);
            x = y;
            y = r;
        }
        return primitive(x);
    }

    /** a by b, which goes into it with whole coefficients. */
    private static BigInteger[] quotient(BigInteger[] a, BigInteger[] b) {
        BigInteger[] r = a.clone();
        BigInteger[] q = zeros(a.length);
        for (int k = top(a) - top(b); k >= 0; k--) {
            q[k] = r[k + top(b)].divide(b[top(b)]);
            for (int j = 0; j <= top(b); j++) {
                r[k + j] = r[k + j].subtract(q[k].multiply(b[j]));
            }
        }
        if (top(r) >= 0) {
            throw new IllegalStateException("no divisor");
        }
        return q;
    }

    private static List<BigInteger[]> signRow(BigInteger[] a) {
        List<BigInteger[]> found = new ArrayList<>();
        found.add(a);
        BigInteger[] next = slope(a);
        while (top(next) >= 0) {
            found.add(next);
            next = plus(zeros(1), rest(found.get(found.size() - 2), next), ONE.negate());
        }
        return found;
    }

    /** The value at n / d times d to the power of (length less 1). */
    private static BigInteger value(BigInteger[] a, BigInteger n, BigInteger d) {
        BigInteger sum = ZERO;
        BigInteger power = ONE;
        for (int k = a.length - 1; k >= 0; k--) {
            sum = sum.multiply(n).add(a[k].multiply(power));
            power = power.multiply(d);
        }
        return sum;
    }

    private static int turns(List<BigInteger[]> row, BigInteger n, BigInteger d) {
        int found = 0;
        int last = 0;
        for (BigInteger[] a : row) {
            int s = value(a, n, d).signum();
            if (s != 0) {
                found += last != 0 && s != last ? 1 : 0;
                last = s;
            }
        }
        return found;
    }

    private static BigInteger floorOf(BigInteger n, BigInteger d) {
        BigInteger[] parts = n.shiftLeft(DEEP).divideAndRemainder(d);
        return parts[1].signum() < 0 ? parts[0].subtract(ONE) : parts[0];
    }

    /** The floors of all roots times 2^DEEP. */
    private static List<BigInteger> rootsOf(BigInteger[] a) {
        String key = java.util.Arrays.toString(a);
        List<BigInteger> found = KNOWN_ROOTS.get(key);
        if (found == null) {
            found = new ArrayList<>();
            if (top(a) > 0) {
                BigInteger[] free = quotient(a, common(a, slope(a)));
                List<BigInteger[]> row = signRow(free);
                // the bounds of whole numbers in tests: no root is beyond 10^6
                BigInteger far = ONE.shiftLeft(20);
                int lowest = turns(row, far.negate(), ONE);
                int many = lowest - turns(row, far, ONE);
                for (int i = 0; i < many; i++) {
                    found.add(search(free, row, lowest, i));
                }
            }
            KNOWN_ROOTS.put(key, found);
        }
        return found;
    }

    private static BigInteger search(BigInteger[] free, List<BigInteger[]> row, int lowest, int i) {
        BigInteger low = ONE.shiftLeft(20).negate();
        BigInteger high = ONE.shiftLeft(20);
        int bits = 0;
        while (bits < DEEP || high.subtract(low).compareTo(ONE) > 0) {
            if (high.subtract(low).compareTo(ONE) <= 0) {
                bits++;
                low = low.shiftLeft(1);
                high = high.shiftLeft(1);
            }
            BigInteger middle = low.add(high).shiftRight(1);
            BigInteger unit = ONE.shiftLeft(bits);
            boolean above;
            if (bits <= 80) {
                int zero = value(free, middle, unit).signum() == 0 ? 1 : 0;
                above = lowest - turns(row, middle, unit) - zero > i;
            } else {
                int s = value(free, middle, unit).signum();
                int right = value(free, high, unit).signum();
                // high is no root: 80 bits tell them apart, and with each bit it comes nearer from above
                above = s != 0 && s == right;
            }
            if (above) {
                high = middle;
            } else {
                low = middle;
            }
        }
        return low;
    }

    // ---- the runs

    private static int below(int n) {
        seed = seed * 6364136223846793005L + 1442695040888963407L;
        return (int) ((seed >>> 33) % n);
    }

    private static int pick(int... some) {
        return some[below(some.length)];
    }

    private static int any(int low, int high) {
        return low + below(high - low + 1);
    }

    private static void due(String call, long got, long want, StringBuilder told) {
        calls++;
        told.append(call).append(" -> ").append(got).append('\n');
        if (got != want) {
            wrong++;
            if (wrong <= 5) {
                System.out.println("---- a run that ends wrong; due is " + want + "\n" + told);
            }
        }
    }

    private static long step(RealRoots x, int p, int n, int d, int what) {
        try {
            return x.newton(p, n, d, what);
        } catch (ArithmeticException e) {
            return THROWN;
        }
    }

    /** Fills polynomial p with one of several tempers. */
    private static void fill(RealRoots x, Slow s, int p, StringBuilder told) {
        BigInteger[] a = tempered(s, below(10));
        for (int k = 0; k < 6; k++) {
            int v = k < a.length ? a[k].intValue() : 0;
            v = v < -1000 || v > 1000 ? v % 1000 : v;
            due("set(" + p + ", " + k + ", " + v + ")", x.set(p, k, v), s.set(p, k, v), told);
        }
    }

    private static BigInteger[] tempered(Slow s, int temper) {
        switch (temper) {
            case 0:
            case 1:
                return scattered();
            case 2:
                return product(new BigInteger[] {ONE}, 4);
            case 3:
                return product(new BigInteger[] {ONE}, 2);
            case 4:
                return product(new BigInteger[] {ONE}, 1);
            case 5:
                return twins();
            case 6:
                return atTheBounds();
            case 7:
                return neighbour(s.all.get(below(s.all.size())));
            case 8:
                return kin(s.all.get(below(s.all.size())));
            default:
                return fractions();
        }
    }

    private static BigInteger[] scattered() {
        BigInteger[] a = zeros(6);
        int size = pick(1, 3, 10, 100, 1000);
        int top = below(6);
        for (int k = 0; k <= top; k++) {
            a[k] = BigInteger.valueOf(any(-size, size));
        }
        return a;
    }

    /** The given one times some of degree 1 and 2, as far as there is room. */
    private static BigInteger[] product(BigInteger[] first, int size) {
        BigInteger[] a = first;
        int factors = 1 + below(5);
        for (int f = 0; f < factors; f++) {
            BigInteger[] b = below(3) == 0
                ? new BigInteger[] {BigInteger.valueOf(any(-size, size)), BigInteger.valueOf(any(-2, 2)), ONE}
                : new BigInteger[] {BigInteger.valueOf(any(-size, size)), BigInteger.valueOf(any(1, size))};
            for (int again = pick(1, 1, 2, 3); again > 0; again--) {
                BigInteger[] c = times(a, b);
                a = top(c) <= 5 ? c : a;
            }
        }
        return a;
    }

    /** Two roots that are very near to one another: x^k - 2 (n x - 1)^2. */
    private static BigInteger[] twins() {
        int n = any(2, 22);
        BigInteger[] a = zeros(6);
        a[0] = BigInteger.valueOf(-2);
        a[1] = BigInteger.valueOf(4 * n);
        a[2] = BigInteger.valueOf(-2 * n * n);
        a[any(3, 5)] = BigInteger.valueOf(pick(1, -1));
        return a;
    }

    private static BigInteger[] atTheBounds() {
        BigInteger[] a = zeros(6);
        for (int k = 0; k < 6; k++) {
            a[k] = BigInteger.valueOf(pick(-1000, 1000, -999, 999, 0, 1));
        }
        return a;
    }

    /** Other than another polynomial by 1 in one coefficient: its roots are near to that one's. */
    private static BigInteger[] neighbour(BigInteger[] other) {
        BigInteger[] a = other.clone();
        int k = below(6);
        a[k] = a[k].add(BigInteger.valueOf(pick(1, -1)));
        return a;
    }

    /** Shares some roots with another polynomial: a divisor of that one, with other factors. */
    private static BigInteger[] kin(BigInteger[] other) {
        if (top(other) < 1) {
            return scattered();
        }
        BigInteger[] repeated = common(other, slope(other));
        return product(top(repeated) > 0 && below(2) == 0 ? repeated : primitive(other), 2);
    }

    /** Roots that are fractions with lower numbers up to 31, or one with a lower number up to 1000. */
    private static BigInteger[] fractions() {
        if (below(3) == 0) {
            return new BigInteger[] {BigInteger.valueOf(any(-1000, 1000)), BigInteger.valueOf(any(1, 1000))};
        }
        BigInteger[] a = {BigInteger.valueOf(pick(1, -1))};
        for (int f = 0; f < 2; f++) {
            a = times(a, new BigInteger[] {BigInteger.valueOf(any(-31, 31)), BigInteger.valueOf(any(1, 31))});
        }
        return a;
    }

    private static int someCurve(Slow s) {
        return below(25) == 0 ? pick(-1, s.all.size(), 12, Integer.MIN_VALUE, Integer.MAX_VALUE)
            : below(Math.max(1, s.all.size()));
    }

    private static int someRoot(Slow s, int p) {
        return below(20) == 0 ? pick(-1, 5, 6, Integer.MIN_VALUE, Integer.MAX_VALUE)
            : below(Math.max(1, s.rootsOf(p).size() + (below(12) == 0 ? 1 : 0)));
    }

    private static int someUpper() {
        return below(30) == 0 ? pick(-1000001, 1000001, Integer.MIN_VALUE, Integer.MAX_VALUE)
            : any(-1, 1) * pick(1, 2, 3, any(0, 10), any(0, 1000), any(0, 1000000), 1000000);
    }

    private static int someLower() {
        return below(30) == 0 ? pick(0, -1, 1000001, Integer.MIN_VALUE, Integer.MAX_VALUE)
            : pick(1, 1, 2, 3, 7, any(1, 1000), any(1, 1000000), 1000000);
    }

    /** A fraction, upper and lower number: some at a root, not in lowest terms, or close by it. */
    private static int[] someFraction(Slow s) {
        int p = s.all.isEmpty() ? -1 : below(s.all.size());
        int many = s.rootsOf(p).size();
        if (many == 0 || below(3) != 0) {
            return new int[] {someUpper(), someLower()};
        }
        int i = below(many);
        int d = (int) s.fraction(p, i, 1);
        int times = d == 0 ? 1 : any(1, 1000000 / (1000 * d));
        int lower = d == 0 ? pick(1, 10, 990) : d * times;
        int upper = d == 0 ? s.rootsOf(p).get(i).multiply(BigInteger.valueOf(lower)).shiftRight(DEEP).intValueExact()
            : (int) s.fraction(p, i, 0) * times;
        return new int[] {upper + pick(0, 0, 0, 1, -1), lower};
    }

    private static void call(RealRoots x, Slow s, StringBuilder told) {
        int p = someCurve(s);
        int q = someCurve(s);
        int i = someRoot(s, p);
        int j = someRoot(s, q);
        int[] spot = someFraction(s);
        int n = spot[0];
        int d = spot[1];
        switch (below(22)) {
            case 0:
                int v = below(10) == 0 ? pick(1001, -1001, Integer.MIN_VALUE) : any(-5, 5);
                int power = any(below(9) == 0 ? -1 : 0, below(9) == 0 ? 6 : 5);
                due("set(" + p + ", " + power + ", " + v + ")", x.set(p, power, v), s.set(p, power, v), told);
                break;
            case 1:
                int k = any(-1, 6);
                due("coefficient(" + p + ", " + k + ")", x.coefficient(p, k), s.coefficient(p, k), told);
                break;
            case 2:
                int kind = below(15) == 0 ? pick(-1, 10, Integer.MAX_VALUE) : below(10);
                boolean number = kind == 6 || kind == 9;
                int b = number ? pick(any(-3, 3), any(-12, 12), 1000, -1000, 1001, -1001) : q;
                due("make(" + kind + ", " + p + ", " + b + ")", x.make(kind, p, b), s.make(kind, p, b), told);
                break;
            case 3:
                due("degree(" + p + ")", x.degree(p), s.unknown(p) ? -9 : top(s.all.get(p)), told);
                break;
            case 4:
                due("roots(" + p + ")", x.roots(p),
                    s.unknown(p) ? -1 : top(s.all.get(p)) < 0 ? -3 : s.rootsOf(p).size(), told);
                break;
            case 5:
                due("times(" + p + ", " + i + ")", x.times(p, i), s.timesOf(p, i), told);
                break;
            case 6:
                int bits = below(12) == 0 ? pick(-1, 41, Integer.MIN_VALUE) : any(0, 40);
                due("floor(" + p + ", " + i + ", " + bits + ")", x.floor(p, i, bits), s.floor(p, i, bits), told);
                break;
            case 7:
            case 8:
                int what = below(12) == 0 ? pick(-1, 2) : below(2);
                due("fraction(" + p + ", " + i + ", " + what + ")", x.fraction(p, i, what), s.fraction(p, i, what),
                    told);
                break;
            case 9:
            case 10:
                due("sign(" + q + ", " + p + ", " + i + ")", x.sign(q, p, i), s.sign(q, p, i), told);
                break;
            case 11:
            case 12:
                due("compare(" + p + ", " + i + ", " + q + ", " + j + ")", x.compare(p, i, q, j),
                    s.compare(p, i, q, j), told);
                break;
            case 13:
                due("rank(" + p + ", " + i + ")", x.rank(p, i), s.rank(p, i), told);
                break;
            case 14:
                int[] end = someFraction(s);
                int m = end[0];
                int e = end[1];
                due("between(" + p + ", " + n + ", " + d + ", " + m + ", " + e + ")", x.between(p, n, d, m, e),
                    s.between(p, n, d, m, e), told);
                break;
            case 15:
                due("changes(" + p + ", " + n + ", " + d + ")", x.changes(p, n, d), s.changes(p, n, d), told);
                break;
            case 16:
                due("row(" + p + ")", x.row(p), s.row(p), told);
                break;
            case 17:
                due("at(" + p + ", " + n + ", " + d + ")", x.at(p, n, d), s.at(p, n, d), told);
                break;
            case 18:
                int side = below(12) == 0 ? pick(-1, 2) : below(2);
                due("newton(" + p + ", " + n + ", " + d + ", " + side + ")", step(x, p, n, d, side),
                    s.newton(p, n, d, side), told);
                break;
            case 19:
                due("bound(" + p + ")", x.bound(p), s.bound(p), told);
                break;
            case 20:
                due("all()", x.all(), s.together().size(), told);
                break;
            default:
                due("count()", x.count(), s.all.size(), told);
                break;
        }
    }

    private static void run() {
        RealRoots x = new RealRoots();
        Slow s = new Slow();
        StringBuilder told = new StringBuilder();
        int curves = any(0, 12);
        calls = 0;
        for (int p = 0; p < curves; p++) {
            due("polynomial()", x.polynomial(), s.keep(zeros(6)), told);
            if (below(12) != 0) {
                fill(x, s, p, told);
            }
        }
        while (calls < 512) {
            if (calls + 6 <= 512 && below(60) == 0 && !s.all.isEmpty()) {
                fill(x, s, below(s.all.size()), told);
            } else {
                call(x, s, told);
            }
        }
    }

    public static void main(String[] args) {
        int runs = args.length > 0 ? Integer.parseInt(args[0]) : 40;
        seed += args.length > 1 ? Long.parseLong(args[1]) : 0;
        for (int r = 0; r < runs; r++) {
            run();
        }
        System.out.println(wrong == 0 ? "all answers are as due" : wrong + " answers are not as due");
        if (wrong != 0) {
            System.exit(1);
        }
    }
}
