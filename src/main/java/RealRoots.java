/** Real roots of up to twelve polynomials of degree five or less, exactly. */
public final class RealRoots {
    public static final int NONE = -1;

    private static final int MOST_CURVES = 12;
    private static final int MOST_ROOTS = 5;
    private static final int TERMS = 6;
    private static final int MOST_VALUE = 1000;
    private static final int MOST_NUMBER = 1000000;
    private static final int MOST_BITS = 40;
    // 2^10 is above every leading coefficient: so many bits leave one fraction that a root can be.
    private static final int FRACTION_BITS = 10;
    private static final long MOST_ANSWER = 1000000000000000000L;
    private static final long UNKNOWN = -4000000000000000000L;
    private static final long OUTSIDE = -4000000000000000001L;
    private static final long BEYOND = -4000000000000000004L;

    private final Curve[] curves = new Curve[MOST_CURVES];
    private int held = 0;

    // All work is done on these, so that no call makes an object but newton's exception.
    private final Chain chain = new Chain();
    private final Spot spot = new Spot();
    private final Ratio ratio = new Ratio();
    private final long[] wide = new long[2 * TERMS];
    private final int[] slope = new int[TERMS];
    private final int[] shared = new int[TERMS];
    private final int[] low = new int[MOST_ROOTS];
    private final int[] high = new int[MOST_ROOTS];

    // The different roots of all curves from the least on; a root's code is curve * MOST_ROOTS + number.
    private final int[] line = new int[MOST_CURVES * MOST_ROOTS];
    private final int[] standsFor = new int[MOST_CURVES * MOST_ROOTS];
    private int lineLength = 0;
    private boolean lined = false;

    public RealRoots() {
        for (int p = 0; p < MOST_CURVES; p++) {
            curves[p] = new Curve();
        }
    }

    public int polynomial() {
        clearWide();
        return keepWide();
    }

    public int set(int p, int power, int v) {
        if (unknown(p)) {
            return -1;
        }
        if (power < 0 || power >= TERMS || v < -MOST_VALUE || v > MOST_VALUE) {
            return -2;
        }
        int was = curves[p].value[power];
        if (was != v) {
            curves[p].value[power] = v;
            curves[p].settled = false;
            lined = false;
        }
        return was + MOST_VALUE;
    }

    public int coefficient(int p, int power) {
        return unknown(p) || power < 0 || power >= TERMS ? 0 : curves[p].value[power];
    }

    public int make(int kind, int a, int b) {
        boolean two = kind == 0 || kind == 1 || kind == 2 || kind == 4;
        if (kind < 0 || kind > 9 || unknown(a) || (two && unknown(b))) {
            return -1;
        }
        if ((kind == 6 || kind == 9) && (b < -MOST_VALUE || b > MOST_VALUE)) {
            return -2;
        }
        if ((kind == 5 || kind == 8) && topOf(curves[a].value) == NONE) {
            return -3;
        }
        clearWide();
        if (two) {
            ofTwo(kind, curves[a].value, curves[b].value);
        } else {
            ofOne(kind, curves[a].value, b);
        }
        return keepWide();
    }

    public int degree(int p) {
        return unknown(p) ? -9 : topOf(curves[p].value);
    }

    public int roots(int p) {
        if (unknown(p)) {
            return -1;
        }
        int many = ready(p);
        return many == NONE ? -3 : many;
    }

    public int times(int p, int i) {
        if (i < 0 || i >= ready(p)) {
            return -1;
        }
        Curve c = curves[p];
        copy(c.value, slope);
        for (int n = 1; n < TERMS; n++) {
            derive(slope, slope);
            common(c.free, slope);
            if (!vanishes(c, i, shared)) {
                return n;
            }
        }
        return TERMS - 1;
    }

    public long floor(int p, int i, int bits) {
        if (i < 0 || i >= ready(p)) {
            return UNKNOWN;
        }
        if (bits < 0 || bits > MOST_BITS) {
            return OUTSIDE;
        }
        deepenTo(curves[p], i, bits);
        return curves[p].place[i].scaled(bits);
    }

    public long fraction(int p, int i, int what) {
        if (i < 0 || i >= ready(p)) {
            return UNKNOWN;
        }
        if (what < 0 || what > 1) {
            return OUTSIDE;
        }
        findFraction(curves[p], i);
        return what == 0 ? ratio.n : ratio.d;
    }

    public int sign(int q, int p, int i) {
        if (unknown(q) || i < 0 || i >= ready(p)) {
            return -9;
        }
        int many = ready(q);
        for (int j = 0; j < many; j++) {
            if (order(p * MOST_ROOTS + i, q * MOST_ROOTS + j) == 0) {
                return 0;
            }
        }
        // Each root of q is now told apart from this one, so none lies from the known bits up to it.
        spot.load(curves[q].value);
        spot.start(curves[p].place[i]);
        return spot.signOf(spot.small, 0, spot.top);
    }

    public int compare(int p, int i, int q, int j) {
        if (i < 0 || i >= ready(p) || j < 0 || j >= ready(q)) {
            return -9;
        }
        return order(p * MOST_ROOTS + i, q * MOST_ROOTS + j);
    }

    public int rank(int p, int i) {
        if (i < 0 || i >= ready(p)) {
            return -1;
        }
        for (int q = 0; q < held; q++) {
            ready(q);
        }
        lineUp();
        int code = standsFor[p * MOST_ROOTS + i];
        int below = 0;
        while (below < lineLength && line[below] != code) {
            below++;
        }
        return below;
    }

    public int between(int p, int n, int d, int m, int e) {
        if (unknown(p)) {
            return -1;
        }
        if (outside(n, d) || outside(m, e) || (long) m * d < (long) n * e) {
            return -2;
        }
        if (ready(p) == NONE) {
            return -3;
        }
        signRow(curves[p].free);
        spot.number(n, d);
        chain.look(spot);
        int before = chain.turns;
        spot.number(m, e);
        chain.look(spot);
        return before - chain.turns;
    }

    public int changes(int p, int n, int d) {
        if (unknown(p)) {
            return -1;
        }
        if (outside(n, d)) {
            return -2;
        }
        if (topOf(curves[p].value) == NONE) {
            return -3;
        }
        signRow(curves[p].value);
        spot.number(n, d);
        chain.look(spot);
        return chain.turns;
    }

    public int row(int p) {
        if (unknown(p)) {
            return -1;
        }
        if (topOf(curves[p].value) == NONE) {
            return -3;
        }
        signRow(curves[p].value);
        return chain.length;
    }

    public int at(int p, int n, int d) {
        if (unknown(p)) {
            return -9;
        }
        if (outside(n, d)) {
            return -8;
        }
        spot.load(curves[p].value);
        spot.number(n, d);
        return spot.signOf(spot.small, 0, spot.top);
    }

    public long newton(int p, int n, int d, int what) throws ArithmeticException {
        if (unknown(p)) {
            return UNKNOWN;
        }
        if (outside(n, d) || what < 0 || what > 1) {
            return OUTSIDE;
        }
        derive(curves[p].value, slope);
        spot.number(n, d);
        spot.load(slope);
        if (spot.signOf(spot.small, 0, spot.top) == 0) {
            throw new ArithmeticException("the derivative is 0 there");
        }
        // With n, d in homogeneous form the step is (n * slope - value) / (d * slope).
        ratio.upper.product(spot.upper, spot.total);
        ratio.lower.product(spot.lower, spot.total);
        spot.load(curves[p].value);
        spot.signOf(spot.small, 0, spot.top);
        ratio.upper.add(spot.total, -1);
        if (!ratio.reduce(MOST_ANSWER)) {
            return BEYOND;
        }
        return what == 0 ? ratio.n : ratio.d;
    }

    public int bound(int p) {
        if (unknown(p)) {
            return -1;
        }
        int many = ready(p);
        if (many == NONE) {
            return -3;
        }
        if (many == 0) {
            return 0;
        }
        Curve c = curves[p];
        findFraction(c, many - 1);
        int least = -c.place[0].whole;
        int most = c.place[many - 1].whole + (ratio.d == 1 ? 0 : 1);
        return Math.max(least, Math.max(most, 0));
    }

    public int all() {
        for (int q = 0; q < held; q++) {
            ready(q);
        }
        lineUp();
        return lineLength;
    }

    public int count() {
        return held;
    }

    private boolean unknown(int p) {
        return p < 0 || p >= held;
    }

    private static boolean outside(int n, int d) {
        return n < -MOST_NUMBER || n > MOST_NUMBER || d < 1 || d > MOST_NUMBER;
    }

    // ---- new polynomials, by way of the wide row

    private void clearWide() {
        for (int k = 0; k < wide.length; k++) {
            wide[k] = 0;
        }
    }

    /** The wide row as a new polynomial: its number, or -4 without room or beyond the bounds. */
    private int keepWide() {
        if (held >= MOST_CURVES) {
            return -4;
        }
        for (int k = 0; k < wide.length; k++) {
            long most = k < TERMS ? MOST_VALUE : 0;
            if (wide[k] < -most || wide[k] > most) {
                return -4;
            }
        }
        Curve c = curves[held];
        narrow(c.value);
        c.settled = false;
        lined = false;
        held++;
        return held - 1;
    }

    private void narrow(int[] to) {
        for (int k = 0; k < TERMS; k++) {
            to[k] = (int) wide[k];
        }
    }

    private void widen(int[] from) {
        for (int k = 0; k < wide.length; k++) {
            wide[k] = k < TERMS ? from[k] : 0;
        }
    }

    private void ofTwo(int kind, int[] a, int[] b) {
        if (kind == 4) {
            common(a, b);
            widen(shared);
            return;
        }
        for (int k = 0; k < TERMS; k++) {
            if (kind == 2) {
                for (int j = 0; j < TERMS; j++) {
                    wide[k + j] += (long) a[k] * b[j];
                }
            } else {
                wide[k] = a[k] + (kind == 0 ? b[k] : -b[k]);
            }
        }
    }

    private void ofOne(int kind, int[] a, int b) {
        switch (kind) {
            case 3:
                derive(a, slope);
                widen(slope);
                break;
            case 5:
                withoutRepeats(a);
                break;
            case 6:
                moved(a, b);
                break;
            case 7:
                stretched(a, -1);
                break;
            case 8:
                int top = topOf(a);
                for (int k = 0; k <= top; k++) {
                    wide[k] = a[top - k];
                }
                break;
            default:
                stretched(a, b);
                break;
        }
    }

    private void moved(int[] a, int b) {
        for (int k = TERMS - 1; k >= 0; k--) {
            for (int j = TERMS - 1; j > 0; j--) {
                wide[j] = wide[j] * b + wide[j - 1];
            }
            wide[0] = wide[0] * b + a[k];
        }
    }

    private void stretched(int[] a, int b) {
        long power = 1;
        for (int k = 0; k < TERMS; k++) {
            wide[k] = a[k] * power;
            power *= b;
        }
    }

    // ---- polynomials with small whole coefficients

    private static int topOf(int[] a) {
        int top = TERMS - 1;
        while (top >= 0 && a[top] == 0) {
            top--;
        }
        return top;
    }

    private static void copy(int[] from, int[] to) {
        for (int k = 0; k < TERMS; k++) {
            to[k] = from[k];
        }
    }

    /** The derivative; from and to may be the same row. */
    private static void derive(int[] from, int[] to) {
        for (int k = 1; k < TERMS; k++) {
            to[k - 1] = from[k] * k;
        }
        to[TERMS - 1] = 0;
    }

    private static long greatestDivisor(long a, long b) {
        long x = a < 0 ? -a : a;
        long y = b < 0 ? -b : b;
        // Two steps halve the number at least, so 64 bits need fewer than 200.
        for (int step = 0; step < 200 && y != 0; step++) {
            long rest = x % y;
            x = y;
            y = rest;
        }
        return x;
    }

    private void makeWidePrimitive() {
        long content = 0;
        long lead = 0;
        for (int k = 0; k < TERMS; k++) {
            content = greatestDivisor(content, wide[k]);
            lead = wide[k] != 0 ? wide[k] : lead;
        }
        long by = lead < 0 ? -content : content;
        for (int k = 0; k < TERMS && by != 0; k++) {
            wide[k] /= by;
        }
    }

    /** The greatest common divisor, primitive, into the row shared. */
    private void common(int[] a, int[] b) {
        int topA = topOf(a);
        int topB = topOf(b);
        if (topA == NONE || topB == NONE) {
            widen(topA == NONE ? b : a);
        } else {
            chain.begin(topA >= topB ? a : b, topA >= topB ? b : a);
            // The true lead goes into both leads, so with theirs as its lead the divisor is whole.
            long lead = greatestDivisor(a[topA], b[topB]);
            clearWide();
            for (int k = 0; k < TERMS; k++) {
                wide[k] = chain.lastWithLead(lead, k);
            }
        }
        makeWidePrimitive();
        narrow(shared);
    }

    /** Leaves in the wide row a, primitive, with each of its roots only once; a is not ZERO. */
    private void withoutRepeats(int[] a) {
        derive(a, slope);
        common(a, slope);
        int top = topOf(a);
        int by = topOf(shared);
        widen(a);
        if (by == NONE) {
            return;
        }
        long lead = shared[by];
        // The divisor is primitive and goes into a, so each part is whole.
        // Each stands for a while where the term was that it clears, 'by' places above its own.
        for (int k = top; k >= by; k--) {
            long part = lead == 0 ? 0 : wide[k] / lead;
            for (int j = 0; j < by; j++) {
                wide[k - by + j] -= part * shared[j];
            }
            wide[k] = part;
        }
        for (int k = 0; k < TERMS; k++) {
            wide[k] = k + by < TERMS ? wide[k + by] : 0;
        }
        makeWidePrimitive();
    }

    private void signRow(int[] a) {
        derive(a, slope);
        chain.begin(a, slope);
    }

    // ---- roots

    /** How many roots polynomial p has, all of them told apart; NONE if it is unknown or ZERO. */
    private int ready(int p) {
        if (unknown(p) || topOf(curves[p].value) == NONE) {
            return NONE;
        }
        Curve c = curves[p];
        if (!c.settled) {
            withoutRepeats(c.value);
            narrow(c.free);
            signRow(c.free);
            c.many = Math.min(MOST_ROOTS, Math.max(0, chain.turnsFar(-1) - chain.turnsFar(1)));
            findWholes(c);
            tellApart(c);
            c.settled = true;
        }
        return c.many;
    }

    /** No root is as far from 0 as this (Cauchy's bound). */
    private static int reach(int[] a) {
        int top = topOf(a);
        int most = 0;
        for (int k = 0; k < top; k++) {
            most = Math.max(most, Math.abs(a[k]));
        }
        int lead = top < 0 ? 0 : Math.abs(a[top]);
        return lead == 0 ? 1 : most / lead + 2;
    }

    /** The whole part of each root; the chain is the sign row of c.free. */
    private void findWholes(Curve c) {
        int reach = reach(c.value);
        for (int i = 0; i < c.many; i++) {
            low[i] = -reach;
            high[i] = reach;
        }
        for (int i = 0; i < c.many; i++) {
            for (int step = 0; step < 32 && high[i] - low[i] > 1; step++) {
                int middle = Math.floorDiv(low[i] + high[i], 2);
                spot.number(middle, 1);
                chain.look(spot);
                int below = chain.rootsBelow();
                // One look serves all roots that are still sought.
                for (int j = i; j < c.many; j++) {
                    if (j < below) {
                        high[j] = Math.min(high[j], middle);
                    } else {
                        low[j] = Math.max(low[j], middle);
                    }
                }
            }
            c.place[i].begin(low[i]);
        }
    }

    /** As many bits as make the roots differ; the chain is the sign row of c.free. */
    private void tellApart(Curve c) {
        boolean close = c.many > 1;
        for (int step = 0; step < Place.MOST && close; step++) {
            close = false;
            for (int i = 0; i < c.many; i++) {
                if (meetsNeighbour(c, i)) {
                    close = true;
                    deepenByCount(c, i);
                }
            }
        }
    }

    private static boolean meetsNeighbour(Curve c, int i) {
        return (i > 0 && c.place[i - 1].against(c.place[i]) == 0)
            || (i + 1 < c.many && c.place[i].against(c.place[i + 1]) == 0);
    }

    /** One bit more of root i, by counting roots; the chain is the sign row of c.free. */
    private void deepenByCount(Curve c, int i) {
        Place r = c.place[i];
        if (r.lengthen()) {
            spot.start(r);
            chain.look(spot);
            if (chain.rootsBelow() > i) {
                r.clearLast();
            }
        }
    }

    /** One bit more of root i, which is told apart from the others. */
    private void deepen(Curve c, int i) {
        Place r = c.place[i];
        if (r.lengthen()) {
            // The free part turns its sign at every root, and is above 0 right of the last.
            int right = (c.many - i) % 2 == 1 ? 1 : -1;
            spot.start(r);
            spot.load(c.free);
            if (spot.signOf(spot.small, 0, spot.top) == right) {
                r.clearLast();
            }
        }
    }

    private void deepenTo(Curve c, int i, int bits) {
        for (int bit = c.place[i].depth; bit < bits; bit++) {
            deepen(c, i);
        }
    }

    /** Whether root i is one of g's too; g must go into the free part, so that no other root is in question. */
    private boolean vanishes(Curve c, int i, int[] g) {
        Place r = c.place[i];
        for (int step = 0; step <= Place.MOST; step++) {
            spot.load(g);
            spot.start(r);
            int from = spot.signOf(spot.small, 0, spot.top);
            if (from == 0) {
                return true;
            }
            spot.goToEnd(r);
            int to = spot.signOf(spot.small, 0, spot.top);
            if (to != 0) {
                return from != to;
            }
            // The end is itself the next root of g and tells nothing: a nearer end will.
            deepen(c, i);
        }
        return false;
    }

    /** Two roots, by their codes: -1, 0, 1. */
    private int order(int one, int two) {
        Curve c = curves[one / MOST_ROOTS];
        Curve d = curves[two / MOST_ROOTS];
        int i = one % MOST_ROOTS;
        int j = two % MOST_ROOTS;
        if (one / MOST_ROOTS == two / MOST_ROOTS) {
            return Integer.compare(i, j);
        }
        Place r = c.place[i];
        Place s = d.place[j];
        boolean asked = false;
        // Different roots differ by more than 2^-222 (Mahler's bound for the product of both).
        for (int step = 0; step <= 3 * Place.MOST; step++) {
            int way = r.against(s);
            if (way != 0) {
                return way;
            }
            if (!asked && r.depth == s.depth) {
                asked = true;
                common(c.free, d.free);
                if (vanishes(c, i, shared)) {
                    return 0;
                }
            }
            if (r.depth <= s.depth) {
                deepen(c, i);
            } else {
                deepen(d, j);
            }
        }
        return 0;
    }

    /** The root as a fraction in lowest terms, 0 / 0 if it is none, into ratio.n and ratio.d. */
    private void findFraction(Curve c, int i) {
        ratio.n = 0;
        ratio.d = 0;
        deepenTo(c, i, FRACTION_BITS);
        int top = topOf(c.free);
        if (top < 0) {
            return;
        }
        long lead = c.free[top];
        // A fraction's lower number goes into the lead: lead times the root is whole, and this one.
        long near = -Math.floorDiv(-(c.place[i].scaled(FRACTION_BITS) * lead), 1L << FRACTION_BITS);
        spot.number(near, lead);
        spot.load(c.free);
        if (spot.signOf(spot.small, 0, spot.top) != 0) {
            return;
        }
        for (int k = 0; k < TERMS; k++) {
            shared[k] = k == 0 ? (int) -near : k == 1 ? (int) lead : 0;
        }
        if (vanishes(c, i, shared)) {
            long by = greatestDivisor(near, lead);
            ratio.n = by == 0 ? 0 : near / by;
            ratio.d = by == 0 ? 0 : lead / by;
        }
    }

    /** Makes the line of different roots; all curves are ready. */
    private void lineUp() {
        if (lined) {
            return;
        }
        lineLength = 0;
        for (int p = 0; p < held; p++) {
            int many = topOf(curves[p].value) == NONE ? 0 : curves[p].many;
            int place = 0;
            for (int i = 0; i < many; i++) {
                int code = p * MOST_ROOTS + i;
                int way = 1;
                for (; place < lineLength; place++) {
                    way = order(code, line[place]);
                    if (way <= 0) {
                        break;
                    }
                }
                if (way != 0) {
                    insert(place, code);
                }
                standsFor[code] = place < lineLength ? line[place] : code;
            }
        }
        lined = true;
    }

    private void insert(int place, int code) {
        if (place < 0 || lineLength >= line.length) {
            return;
        }
        for (int k = lineLength; k > place; k--) {
            line[k] = line[k - 1];
        }
        line[place] = code;
        lineLength++;
    }

    // ---- the classes inside

    /** A polynomial, and what is known of its roots since its coefficients changed last. */
    private static final class Curve {
        final int[] value = new int[TERMS];
        /** The primitive polynomial with the same roots, each once. */
        final int[] free = new int[TERMS];
        final Place[] place = new Place[MOST_ROOTS];
        boolean settled = false;
        int many = 0;

        Curve() {
            for (int i = 0; i < MOST_ROOTS; i++) {
                place[i] = new Place();
            }
        }
    }

    /** Where a root is: its whole part (floor), and so many bits behind the point as are known. */
    private static final class Place {
        static final int WORDS = 8;
        static final int MOST = WORDS * Big.BITS;

        int whole = 0;
        int depth = 0;
        /** The bits, the greatest first; those beyond the depth are 0. */
        final int[] word = new int[WORDS];

        void begin(int floor) {
            whole = floor;
            depth = 0;
            for (int w = 0; w < WORDS; w++) {
                word[w] = 0;
            }
        }

        /** Sets a further bit; false if there is no room. */
        boolean lengthen() {
            if (depth >= MOST) {
                return false;
            }
            word[depth / Big.BITS] |= 1 << (Big.BITS - 1 - depth % Big.BITS);
            depth++;
            return true;
        }

        void clearLast() {
            if (depth > 0) {
                word[(depth - 1) / Big.BITS] &= ~(1 << (Big.BITS - 1 - (depth - 1) % Big.BITS));
            }
        }

        /** Compares as far as the bits of both are known; 0 if so far they are the same. */
        int against(Place other) {
            if (whole != other.whole) {
                return whole < other.whole ? -1 : 1;
            }
            int bits = Math.min(depth, other.depth);
            for (int w = 0; w < WORDS && w * Big.BITS < bits; w++) {
                int drop = Math.max(0, (w + 1) * Big.BITS - bits);
                int mine = word[w] >> drop;
                int theirs = other.word[w] >> drop;
                if (mine != theirs) {
                    return mine < theirs ? -1 : 1;
                }
            }
            return 0;
        }

        /** The floor of the root times 2^bits; bits at most 40, and at most the depth. */
        long scaled(int bits) {
            long first = ((long) word[0] << Big.BITS) | word[1];
            return whole * (1L << bits) + (first >> (2 * Big.BITS - bits));
        }
    }

    /** A number upper / lower (lower above 0), and the work of finding signs of polynomials there. */
    private static final class Spot {
        final Big upper = new Big();
        final Big lower = new Big();
        final Big[] small = new Big[TERMS];
        int top = NONE;
        Big total = new Big();
        private Big power = new Big();
        private Big left = new Big();
        private Big right = new Big();

        Spot() {
            for (int k = 0; k < TERMS; k++) {
                small[k] = new Big();
            }
        }

        void load(int[] a) {
            top = topOf(a);
            for (int k = 0; k < TERMS; k++) {
                small[k].put(a[k]);
            }
        }

        void number(long n, long d) {
            upper.put(n);
            lower.put(d);
        }

        /** The number that the known bits of a root tell: the root is not below it. */
        void start(Place r) {
            int words = (r.depth + Big.BITS - 1) / Big.BITS;
            lower.putUnit(words);
            right.put(r.whole);
            upper.product(right, lower);
            right.putWords(r.word, words);
            upper.add(right, 1);
        }

        /** From the start of a root on by one of its last known bit: the root is below that. */
        void goToEnd(Place r) {
            int words = (r.depth + Big.BITS - 1) / Big.BITS;
            right.put(1L << (words * Big.BITS - r.depth));
            upper.add(right, 1);
        }

        /**
         * The sign here of the polynomial with the coefficients term[base] .. term[base + degree].
         * Leaves in total its value times lower to the power of the degree.
         */
        int signOf(Big[] term, int base, int degree) {
            total.put(0);
            power.put(1);
            for (int k = degree; k >= 0 && base >= 0 && base + k < term.length; k--) {
                left.product(total, upper);
                right.product(term[base + k], power);
                left.add(right, 1);
                Big free = total;
                total = left;
                left = free;
                if (k > 0) {
                    right.product(power, lower);
                    free = power;
                    power = right;
                    right = free;
                }
            }
            return total.side;
        }
    }

    /**
     * Two polynomials, then each next one the remainder of the one before the last by the last, with the
     * other sign, times some number above 0 that keeps it whole.
     */
    private static final class Chain {
        static final int MOST = 7;

        final Big[] term = new Big[MOST * TERMS];
        final int[] tops = new int[MOST];
        int length = 0;
        /** What the last look has found: changes of sign, and the first one's sign. */
        int turns = 0;
        private int first = 0;
        private Big left = new Big();
        private final Big right = new Big();

        Chain() {
            for (int k = 0; k < term.length; k++) {
                term[k] = new Big();
            }
        }

        /** The degree of b is not above that of a. */
        void begin(int[] a, int[] b) {
            tops[0] = topOf(a);
            tops[1] = topOf(b);
            for (int k = 0; k < TERMS; k++) {
                term[k].put(a[k]);
                term[TERMS + k].put(b[k]);
            }
            length = tops[1] == NONE ? 1 : 2;
            // Behind one of degree 0 only ZERO could come.
            for (int step = 2; step == length && step < MOST && tops[step - 1] > 0; step++) {
                divide();
                length += tops[step] != NONE ? 1 : 0;
            }
        }

        /** Makes the next remainder behind the last polynomial. */
        private void divide() {
            int by = (length - 1) * TERMS;
            int to = length * TERMS;
            int low = tops[length - 1];
            for (int k = 0; k < TERMS; k++) {
                term[to + k].copy(term[by - TERMS + k]);
            }
            Big lead = term[by + low];
            for (int top = tops[length - 2]; top >= low; top--) {
                Big head = term[to + top];
                for (int k = 0; k < top && head.side != 0; k++) {
                    left.product(lead, term[to + k]);
                    if (k + low >= top) {
                        right.product(head, term[by + k + low - top]);
                        left.add(right, -1);
                    }
                    // The factor must be above 0, that is the lead's size.
                    left.side *= lead.side;
                    Big free = term[to + k];
                    term[to + k] = left;
                    left = free;
                }
                head.put(0);
            }
            tops[length] = NONE;
            for (int k = 0; k < low; k++) {
                term[to + k].side = -term[to + k].side;
                tops[length] = term[to + k].side != 0 ? k : tops[length];
            }
        }

        /** Counts the changes of sign at a spot. */
        void look(Spot spot) {
            int last = 0;
            turns = 0;
            for (int k = 0; k < length; k++) {
                int side = spot.signOf(term, k * TERMS, tops[k]);
                first = k == 0 ? side : first;
                turns += side * last < 0 ? 1 : 0;
                last = side != 0 ? side : last;
            }
        }

        /** The changes of sign below all roots (way -1) or above them (1). */
        int turnsFar(int way) {
            int found = 0;
            int last = 0;
            for (int k = 0; k < length && tops[k] >= 0; k++) {
                int side = term[k * TERMS + tops[k]].side * (tops[k] % 2 == 1 ? way : 1);
                found += side * last < 0 ? 1 : 0;
                last = side;
            }
            return found;
        }

        /** How many roots of the first one are below the last look; for a sign row of one without repeats. */
        int rootsBelow() {
            return turnsFar(-1) - turns - (first == 0 ? 1 : 0);
        }

        /** Coefficient k of the last polynomial times what makes its lead the given one; it must be whole. */
        long lastWithLead(long lead, int k) {
            int top = length < 1 ? NONE : tops[length - 1];
            if (k < 0 || k > top) {
                return 0;
            }
            int base = (length - 1) * TERMS;
            right.put(lead);
            left.product(right, term[base + k]);
            right.copy(term[base + top]);
            return left.over(right);
        }
    }

    /** A fraction upper / lower, and the same in lowest terms as n / d. */
    private static final class Ratio {
        final Big upper = new Big();
        final Big lower = new Big();
        long n = 0;
        long d = 0;
        private final Big one = new Big();
        private final Big two = new Big();
        private final Big spare = new Big();

        /** Finds n and d; false if one of them is above most in size. Lower is not 0. */
        boolean reduce(long most) {
            upper.side *= lower.side;
            lower.side = 1;
            if (upper.side == 0) {
                n = 0;
                d = 1;
                return true;
            }
            int twos = Math.min(upper.twos(), lower.twos());
            upper.shiftDown(twos);
            lower.shiftDown(twos);
            findDivisor();
            n = quotient(upper);
            d = quotient(lower);
            return n >= -most && n <= most && d != 0 && d <= most && n != 0;
        }

        /** The greatest odd number that goes into both, into two. */
        private void findDivisor() {
            one.copy(upper);
            one.side = 1;
            one.shiftDown(one.twos());
            two.copy(lower);
            two.shiftDown(two.twos());
            // Each step takes a bit at least from one of the two.
            for (int step = 0; step <= 2 * Big.LIMBS * Big.BITS && one.side != 0; step++) {
                one.add(two, -1);
                if (one.side < 0) {
                    two.add(one, 1);
                    one.side = 1;
                }
                one.shiftDown(one.twos());
            }
        }

        /** What a is by the odd divisor, or 0 if that needs more than 62 bits. */
        private long quotient(Big a) {
            one.copy(a);
            long found = one.over(two);
            spare.put(found);
            one.product(spare, two);
            one.add(a, -1);
            return one.side == 0 ? found : 0;
        }
    }

    /** A whole number in limbs of 31 bits, the least first. What would need more room than there is is cut off. */
    private static final class Big {
        static final int BITS = 31;
        /** A root to 248 bits to the power of 5 needs 44 limbs, no remainder more than 40. */
        static final int LIMBS = 48;
        static final long MASK = (1L << BITS) - 1;
        static final long PAIR_MASK = (1L << (2 * BITS)) - 1;

        /** -1, 0, 1. */
        int side = 0;
        int size = 0;
        final int[] limb = new int[LIMBS];

        void put(long v) {
            side = v < 0 ? -1 : v > 0 ? 1 : 0;
            size = 0;
            for (long rest = v < 0 ? -v : v; rest != 0 && size < LIMBS; rest >>>= BITS) {
                limb[size] = (int) (rest & MASK);
                size++;
            }
        }

        /** 2^31 to the power of words. */
        void putUnit(int words) {
            size = 0;
            for (int k = 0; k <= words && k < LIMBS; k++) {
                limb[k] = k == words ? 1 : 0;
                size = k + 1;
            }
            side = 1;
        }

        /** The first words of a row with the greatest first. */
        void putWords(int[] word, int words) {
            size = 0;
            for (int k = 0; k < words && k < LIMBS; k++) {
                int from = words - 1 - k;
                limb[k] = from < word.length ? word[from] : 0;
                size = limb[k] != 0 ? k + 1 : size;
            }
            side = size == 0 ? 0 : 1;
        }

        void copy(Big a) {
            side = a.side;
            size = a.size;
            for (int k = 0; k < size; k++) {
                limb[k] = a.limb[k];
            }
        }

        /** This becomes a times b; it is neither of them. */
        void product(Big a, Big b) {
            side = a.side * b.side;
            size = side == 0 ? 0 : a.size + b.size < LIMBS ? a.size + b.size : LIMBS;
            for (int k = 0; k < size; k++) {
                limb[k] = 0;
            }
            for (int k = 0; k < a.size && k < size; k++) {
                long factor = a.limb[k];
                long carry = 0;
                int end = b.size < size - k ? b.size : size - k;
                for (int j = 0; j < end && factor != 0; j++) {
                    carry += limb[k + j] + factor * b.limb[j];
                    limb[k + j] = (int) (carry & MASK);
                    carry >>>= BITS;
                }
                if (k + end < size) {
                    limb[k + end] = (int) carry;
                }
            }
            while (size > 0 && limb[size - 1] == 0) {
                size--;
            }
            side = size == 0 ? 0 : side;
        }

        /** Adds a (way 1) or takes it away (way -1). */
        void add(Big a, int way) {
            side = side == 0 ? a.side * way : side;
            int same = a.side * way * side;
            int top = size > a.size ? size : a.size;
            long carry = 0;
            for (int k = 0; k < top; k++) {
                long mine = k < size ? limb[k] : 0;
                long other = k < a.size ? a.limb[k] : 0;
                carry += mine + same * other;
                limb[k] = (int) (carry & MASK);
                carry >>= BITS;
            }
            size = top;
            if (carry > 0 && top < LIMBS) {
                limb[top] = (int) carry;
                size = top + 1;
            }
            if (carry < 0) {
                // More was taken away than there was: the limbs hold what is missing to a full power.
                side = -side;
                carry = 0;
                for (int k = 0; k < top; k++) {
                    carry -= limb[k];
                    limb[k] = (int) (carry & MASK);
                    carry >>= BITS;
                }
            }
            while (size > 0 && limb[size - 1] == 0) {
                size--;
            }
            side = size == 0 ? 0 : side;
        }

        /** How often 2 goes into it; 0 for 0. */
        int twos() {
            int k = 0;
            while (k < size - 1 && limb[k] == 0) {
                k++;
            }
            int bit = 0;
            while (size > 0 && bit < BITS - 1 && (limb[k] >> bit & 1) == 0) {
                bit++;
            }
            return k * BITS + bit;
        }

        /** Drops the lowest bits. */
        void shiftDown(int bits) {
            int skip = bits < 0 ? 0 : bits / BITS;
            int drop = bits < 0 ? 0 : bits % BITS;
            int kept = size > skip ? size - skip : 0;
            for (int k = 0; k < kept; k++) {
                long next = k + skip + 1 < size ? limb[k + skip + 1] : 0;
                limb[k] = (int) ((next << BITS | limb[k + skip]) >> drop & MASK);
            }
            size = kept;
            while (size > 0 && limb[size - 1] == 0) {
                size--;
            }
            side = size == 0 ? 0 : side;
        }

        private long lowPair() {
            long least = size > 0 ? limb[0] : 0;
            long next = size > 1 ? limb[1] : 0;
            return next << BITS | least;
        }

        /**
         * This by the divisor, which must go into it, if that needs no more than 62 bits: then the lowest bits
         * of both tell it, by the inverse of an odd number to the power of 2. Both lose their common twos.
         */
        long over(Big divisor) {
            int down = divisor.twos();
            shiftDown(down);
            divisor.shiftDown(down);
            long odd = divisor.lowPair();
            long inverse = odd;
            // Three bits are right at first, and each step doubles them.
            for (int step = 0; step < 5; step++) {
                inverse *= 2 - odd * inverse;
            }
            return side * divisor.side * (lowPair() * inverse & PAIR_MASK);
        }
    }
}
