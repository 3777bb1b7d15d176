/** The example of README.md: every answer that it tells. */
public final class RealRootsReadme {
    private static int wrong = 0;

    private static void due(String call, long got, long want) {
        if (got != want) {
            wrong++;
            System.out.println(call + " answered " + got + ", README.md says " + want);
        }
    }

    public static void main(String[] args) {
        RealRoots x = new RealRoots();
        int p = x.polynomial();
        due("the first polynomial()", p, 0);
        due("set(p, 2, 1)", x.set(p, 2, 1), 1000);
        x.set(p, 0, -2);
        due("roots(p)", x.roots(p), 2);
        due("floor(p, 1, 10)", x.floor(p, 1, 10), 1448);
        due("fraction(p, 1, 1)", x.fraction(p, 1, 1), 0);
        int q = x.polynomial();
        due("the second polynomial()", q, 1);
        x.set(q, 1, 2);
        x.set(q, 0, -3);
        due("fraction(q, 0, 0)", x.fraction(q, 0, 0), 3);
        due("fraction(q, 0, 1)", x.fraction(q, 0, 1), 2);
        due("compare(p, 1, q, 0)", x.compare(p, 1, q, 0), -1);
        due("sign(q, p, 1)", x.sign(q, p, 1), -1);
        int r = x.make(2, p, q);
        due("make(2, p, q)", r, 2);
        due("between(r, 0, 1, 3, 2)", x.between(r, 0, 1, 3, 2), 2);
        due("rank(r, 2)", x.rank(r, 2), 2);
        due("all()", x.all(), 3);
        due("newton(p, 3, 2, 0)", x.newton(p, 3, 2, 0), 17);
        due("newton(p, 3, 2, 1)", x.newton(p, 3, 2, 1), 12);
        due("roots(7)", x.roots(7), -1);
        System.out.println(wrong == 0 ? "all answers are as due" : wrong + " answers are not as due");
        if (wrong != 0) {
            System.exit(1);
        }
    }
}
