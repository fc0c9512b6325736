/** The edges that the document names of POLYNOMIALS: promises 17 to 21. */
final class EdgePolynomialsTest {
    private static final int NONE = PlainGeometry.NONE;
    private static final long MOST = 1L << 26;
    private static final long SMALL = 1L << 30;
    private static final int[] UNKNOWN = {-1, -2, 60, 200, Make.TINY, Make.HUGE};

    public static void main(String[] args) {
        room();
        term();
        sums();
        products();
        degrees();
        putIn();
        putInAgain();
        putInCoefficients();
        putInDegrees();
        derivative();
        wrongCombined();
        coefficient();
        same();
        value();
        valueOrder();
        valueSmall();
        wrongValue();
        Due.end();
    }

    private static long fill(PlainGeometry x) {
        x.fraction(1, 1);
        for (int i = 0; i < 60; i++) {
            x.term(i, 0);
        }
        return 0;
    }

    private static void room() {
        Due.by("4 POLYNOMIALS (60 at most)");
        PlainGeometry x = new PlainGeometry();
        for (int i = 0; i < 58; i++) {
            Due.is("term", x.term(i, 0), i);
            if (i == 20) {
                Due.is("one not made takes no number", x.term(MOST + 1, 0), -4);
                Due.is("nor one of no unknown", x.term(1, 3), -2);
            }
        }
        Due.is("59th", x.combine(0, 1, 2), 58);
        Due.is("60th", x.combine(2, 1, 2), 59);
        Due.is("60", x.count(3), 60);
        Due.is("its coefficient", x.coefficient(59, 2, 0, 0), 2);
        Due.is("none behind", x.coefficient(60, 1, 0, 0), 0);
        for (int op = 0; op < 5; op++) {
            int o = op;
            Refused.is("combine " + op, EdgePolynomialsTest::fill, y -> y.combine(o, 1, 2), -4);
            Refused.is("-1 before -4", EdgePolynomialsTest::fill, y -> y.combine(o, 1, 60), -1);
        }
        for (int unknown = -1; unknown < 3; unknown++) {
            int u = unknown;
            Refused.is("one more", EdgePolynomialsTest::fill, y -> y.term(1, u), -4);
        }
        Refused.is("nothing too", EdgePolynomialsTest::fill, y -> y.term(0, NONE), -4);
        Refused.is("-2 before -4", EdgePolynomialsTest::fill, y -> y.term(1, 3), -2);
    }

    private static void isTerm(long v, int unknown) {
        PlainGeometry x = new PlainGeometry();
        String told = "term(" + v + ", " + unknown + ")";
        Due.is(told, x.term(v, unknown), 0);
        Due.is(told + " alone", x.coefficient(0, 0, 0, 0), unknown == NONE ? v : 0);
        Due.is(told + " first", x.coefficient(0, 1, 0, 0), unknown == 0 ? v : 0);
        Due.is(told + " second", x.coefficient(0, 0, 1, 0), unknown == 1 ? v : 0);
        Due.is(told + " third", x.coefficient(0, 0, 0, 1), unknown == 2 ? v : 0);
    }

    private static void term() {
        Due.by("17 v alone (unknown = NONE), or v times an unknown 0 .. 2");
        Due.is("NONE", NONE, -1);
        for (int unknown = -1; unknown < 3; unknown++) {
            for (long v : new long[] {0, 1, -1, 7, MOST - 1, MOST, -MOST}) {
                isTerm(v, unknown);
            }
        }
        Due.by("17 -2 unknown");
        for (int unknown : new int[] {-2, -3, 3, 4, Make.TINY, Make.HUGE}) {
            Stock.refuses("unknown " + unknown, x -> x.term(1, unknown), -2);
            Stock.refuses("0 times unknown " + unknown, x -> x.term(0, unknown), -2);
            Stock.refuses("-2 before -4, unknown " + unknown, x -> x.term(MOST + 1, unknown), -2);
        }
        Due.by("17 -4 (also v beyond 2^26)");
        for (long v : new long[] {MOST + 1, -MOST - 1, 1L << 32, (1L << 32) + 1, -(1L << 32), 1L << 62, Long.MAX_VALUE, Long.MIN_VALUE,
            Long.MIN_VALUE + 1}) {
            for (int unknown = -1; unknown < 3; unknown++) {
                int u = unknown;
                Stock.refuses("v " + v, x -> x.term(v, u), -4);
            }
        }
    }

    /** 0 is v u, 1 is w u by one unknown: what op gives, or refuses. */
    private static void combines(int op, long v, long w, int unknown, long due) {
        PlainGeometry x = new PlainGeometry();
        x.term(v, unknown);
        x.term(w, unknown);
        int i = unknown == 0 ? 1 : 0;
        int j = unknown == 1 ? 1 : 0;
        int k = unknown == 2 ? 1 : 0;
        String told = v + " op " + op + " " + w;
        Due.is(told, x.combine(op, 0, 1), 2);
        Due.is(told + " coefficient", x.coefficient(2, op == 2 ? 2 * i : i, op == 2 ? 2 * j : j, op == 2 ? 2 * k : k), due);
    }

    private static void refuses(int op, long v, long w, int unknown, long due) {
        Refused.is(v + " op " + op + " " + w, x -> x.term(v, unknown) + x.term(w, unknown), x -> x.combine(op, 0, 1), due);
    }

    private static void sums() {
        Due.by("18 0 a + b, 1 a - b: coefficients of at most 2^26 in size");
        for (int unknown = -1; unknown < 3; unknown++) {
            combines(0, MOST - 1, 1, unknown, MOST);
            combines(0, 1 - MOST, -1, unknown, -MOST);
            combines(0, MOST, -MOST, unknown, 0);
            combines(1, MOST - 1, -1, unknown, MOST);
            combines(1, 1 - MOST, 1, unknown, -MOST);
            combines(1, MOST, MOST, unknown, 0);
            refuses(0, MOST, 1, unknown, -4);
            refuses(0, -MOST, -1, unknown, -4);
            refuses(0, MOST, MOST, unknown, -4);
            refuses(1, MOST, -1, unknown, -4);
            refuses(1, -MOST, 1, unknown, -4);
            refuses(1, 1, -MOST, unknown, -4);
        }
    }

    private static void products() {
        Due.by("18 2 a b: coefficients of at most 2^26 in size");
        for (int unknown = -1; unknown < 3; unknown++) {
            combines(2, 1 << 13, 1 << 13, unknown, MOST);
            combines(2, 1 << 13, -(1 << 13), unknown, -MOST);
            combines(2, MOST, 1, unknown, MOST);
            combines(2, -MOST, -1, unknown, MOST);
            combines(2, MOST, 0, unknown, 0);
            refuses(2, 1 << 13, (1 << 13) + 1, unknown, -4);
            refuses(2, -(1 << 13) - 1, 1 << 13, unknown, -4);
            refuses(2, MOST, 2, unknown, -4);
            refuses(2, MOST, MOST, unknown, -4);
            refuses(2, -MOST, MOST, unknown, -4);
        }
        Due.by("18 2 a b: a coefficient of several parts");
        PlainGeometry x = new PlainGeometry();
        int half = Make.sum(x, MOST / 2, 1, 0, 0, MOST / 2, 0, 1, 0);
        int sum = Make.sum(x, 1, 1, 0, 0, 1, 0, 1, 0);
        int product = x.combine(2, half, sum);
        Due.is("x y", x.coefficient(product, 1, 1, 0), MOST);
        Due.is("x x", x.coefficient(product, 2, 0, 0), MOST / 2);
        int more = x.combine(0, half, x.term(1, 1));
        Due.is("x y is one more", x.combine(2, more, sum), -4);
    }

    /** A power of one unknown. */
    private static int power(PlainGeometry x, int unknown, int exponent) {
        return Make.sum(x, 1, unknown == 0 ? exponent : 0, unknown == 1 ? exponent : 0, unknown == 2 ? exponent : 0);
    }

    private static void degrees() {
        Due.by("4 degree (all exponents together) at most 10: of a product");
        for (int unknown = 0; unknown < 3; unknown++) {
            PlainGeometry x = new PlainGeometry();
            int ten = power(x, unknown, 10);
            Due.is("10", x.coefficient(ten, unknown == 0 ? 10 : 0, unknown == 1 ? 10 : 0, unknown == 2 ? 10 : 0), 1);
            for (int other = 0; other < 3; other++) {
                int made = x.count(3);
                Due.is("10 and 1", x.combine(2, ten, x.term(1, other)), -4);
                Due.is("1 and 10", x.combine(2, made, ten), -4);
            }
            Due.is("10 and 0", x.combine(2, ten, x.term(5, NONE)), x.count(3) - 1);
            Due.is("10 and 10", x.combine(2, ten, ten), -4);
        }
        Due.by("4 degree of nothing");
        PlainGeometry x = new PlainGeometry();
        int ten = power(x, 0, 10);
        int zero = x.term(0, 2);
        int made = x.count(3);
        Due.is("10 and nothing", x.combine(2, ten, zero), made);
        Due.is("nothing and 10", x.combine(2, zero, ten), made + 1);
        Due.is("is nothing", x.same(made, zero) + x.same(made + 1, zero), 2);
        Due.is("a sum of degree 10", x.combine(0, ten, zero), made + 2);
        Due.is("what is over is of degree 0", x.combine(2, x.combine(1, x.combine(0, ten, x.term(1, NONE)), ten), ten), x.count(3) - 1);
        Due.by("4 degree (all exponents together)");
        PlainGeometry y = new PlainGeometry();
        int mixed = Make.sum(y, 1, 2, 3, 4);
        int more = y.combine(2, mixed, y.term(3, 1));
        Due.is("2, 4, 4", y.coefficient(more, 2, 4, 4), 3);
        Due.is("11 in all", y.combine(2, more, y.term(1, 0)), -4);
        int both = y.combine(0, more, y.term(1, NONE));
        Due.is("11 in one part", y.combine(2, both, y.term(1, 2)), -4);
    }

    private static long[] of(long... terms) {
        return terms;
    }

    /** A new object's POLYNOMIALS a and b of these terms: what b put into a gives, in all its parts. */
    private static void isPut(long[] a, long[] b, long... due) {
        PlainGeometry x = new PlainGeometry();
        int first = Make.sum(x, a);
        int second = Make.sum(x, b);
        int many = x.count(3);
        String told = java.util.Arrays.toString(b) + " in " + java.util.Arrays.toString(a);
        int put = x.combine(3, first, second);
        Due.is(told, put, many);
        int left = 0;
        for (int i = 0; i <= 10; i++) {
            for (int j = 0; j <= 10 - i; j++) {
                for (int k = 0; k <= 10 - i - j; k++) {
                    left += x.coefficient(put, i, j, k) != 0 ? 1 : 0;
                }
            }
        }
        Due.is(told + " parts", left, due.length / 4);
        for (int t = 0; t < due.length; t += 4) {
            long got = x.coefficient(put, (int) due[t + 1], (int) due[t + 2], (int) due[t + 3]);
            Due.is(told + " part " + t / 4, got, due[t]);
        }
    }

    private static void isNotPut(long[] a, long[] b) {
        PlainGeometry x = new PlainGeometry();
        int first = Make.sum(x, a);
        int second = Make.sum(x, b);
        String before = Refused.state(x);
        String told = java.util.Arrays.toString(b) + " in " + java.util.Arrays.toString(a);
        Due.is(told, x.combine(3, first, second), -4);
        Due.is(told + " changes nothing", Refused.state(x).equals(before));
    }

    private static void putIn() {
        Due.by("18 3 a with b in place of the first unknown");
        long[] a = of(1, 2, 0, 0, 3, 1, 1, 0, 5, 0, 0, 1);
        long[] b = of(1, 0, 1, 0, -2, 0, 0, 0);
        isPut(a, b, 4, 0, 2, 0, -10, 0, 1, 0, 4, 0, 0, 0, 5, 0, 0, 1);
        isPut(b, a, 1, 0, 1, 0, -2, 0, 0, 0);
        long[] first = of(1, 1, 0, 0);
        long[] sum = of(1, 2, 0, 0, 3, 1, 1, 0);
        isPut(sum, first, 1, 2, 0, 0, 3, 1, 1, 0);
        isPut(first, sum, 1, 2, 0, 0, 3, 1, 1, 0);
        long[] nothing = of(0, 0, 0, 0);
        isPut(sum, nothing);
        isPut(nothing, sum);
        isPut(nothing, nothing);
        isPut(of(1, 2, 0, 0, 7, 0, 0, 0), nothing, 7, 0, 0, 0);
    }

    /** What one call has put together is none of the next one's. */
    private static void putInAgain() {
        Due.by("18 3 from 0, with 1 as the power: each time");
        PlainGeometry x = new PlainGeometry();
        int square = Make.sum(x, 1, 2, 0, 0, 4, 1, 0, 0);
        int b = Make.sum(x, 1, 0, 1, 0, 3, 0, 0, 0);
        int first = x.combine(3, square, b);
        int second = x.combine(3, square, b);
        Due.is("again", x.same(first, second), 1);
        Due.is("y y", x.coefficient(second, 0, 2, 0), 1);
        Due.is("10 y", x.coefficient(second, 0, 1, 0), 10);
        Due.is("21", x.coefficient(second, 0, 0, 0), 21);
        Due.is("a number", x.same(x.combine(3, x.term(5, NONE), b), x.term(5, NONE)), 1);
        Due.is("itself", x.same(x.combine(3, x.term(1, 0), b), b), 1);
        Due.by("18 3 what a has with it (without that)");
        isPut(of(1, 0, 10, 0, 1, 1, 0, 0), of(1, 0, 0, 0), 1, 0, 10, 0, 1, 0, 0, 0);
        isPut(of(1, 1, 9, 0, 1, 2, 0, 0), of(1, 0, 0, 0), 1, 0, 9, 0, 1, 0, 0, 0);
    }

    private static void putInCoefficients() {
        Due.by("18 -4 (also a coefficient of anything told here too great): the power");
        long[] root = of(1 << 13, 0, 0, 0);
        isPut(of(1, 2, 0, 0), root, MOST, 0, 0, 0);
        isPut(of(1, 2, 0, 0), of(-(1 << 13), 0, 1, 0), MOST, 0, 2, 0);
        isNotPut(of(1, 3, 0, 0), root);
        isNotPut(of(1, 2, 0, 0), of((1 << 13) + 1, 0, 0, 0));
        isPut(of(1, 1, 0, 0), of(MOST, 0, 0, 0), MOST, 0, 0, 0);
        isPut(of(5, 0, 1, 0), of(MOST, 0, 0, 0), 5, 0, 1, 0);
        Due.by("18 3 what a has with it, times the power");
        isPut(of(2, 1, 0, 0), of(MOST / 2, 0, 0, 0), MOST, 0, 0, 0);
        isNotPut(of(2, 1, 0, 0), of(MOST / 2 + 1, 0, 0, 0));
        isNotPut(of(-2, 1, 0, 0), of(MOST / 2 + 1, 0, 0, 0));
        isNotPut(of(2, 1, 0, 0), of(MOST, 0, 0, 0));
        Due.by("18 3 from 0, going up, is added: what there is between is told too");
        long[] one = of(1, 0, 0, 0);
        isNotPut(of(MOST, 0, 0, 0, 1, 1, 0, 0, -1, 2, 0, 0), one);
        isPut(of(MOST, 0, 0, 0, -1, 1, 0, 0, 1, 2, 0, 0), one, MOST, 0, 0, 0);
        isNotPut(of(-MOST, 0, 0, 0, -1, 1, 0, 0, 1, 2, 0, 0), one);
        isPut(of(1, 0, 0, 0, -1, 1, 0, 0, MOST, 2, 0, 0), one, MOST, 0, 0, 0);
        isNotPut(of(-1, 0, 0, 0, 2, 1, 0, 0, MOST, 2, 0, 0), one);
        isPut(of(-1, 0, 0, 0, 2, 1, 0, 0, MOST - 1, 2, 0, 0), one, MOST, 0, 0, 0);
    }

    private static void putInDegrees() {
        Due.by("18 3 then, if it is not the greatest, the power is times b");
        long[] first = of(1, 1, 0, 0);
        long[] square = of(1, 2, 0, 0);
        isPut(square, of(1, 0, 5, 0), 1, 0, 10, 0);
        isNotPut(square, of(1, 0, 5, 1));
        isPut(first, of(1, 0, 5, 1), 1, 0, 5, 1);
        isPut(of(7, 0, 0, 0), of(1, 0, 5, 1), 7, 0, 0, 0);
        isPut(first, of(1, 0, 10, 0), 1, 0, 10, 0);
        isPut(of(7, 0, 0, 1), of(1, 4, 3, 3), 7, 0, 0, 1);
        isPut(of(1, 10, 0, 0), of(1, 0, 0, 1), 1, 0, 0, 10);
        Due.by("18 3 a part times the power is of too great a degree");
        long[] mixed = of(1, 1, 0, 1);
        isPut(mixed, of(1, 0, 9, 0), 1, 0, 9, 1);
        isNotPut(mixed, of(1, 0, 10, 0));
        isNotPut(of(1, 1, 0, 1, 1, 0, 0, 0), of(1, 4, 3, 3));
        Due.by("18 3 to the greatest in a: that it has, not that it had");
        isPut(of(1, 2, 0, 0, 1, 1, 0, 0, -1, 2, 0, 0), of(1, 0, 5, 1), 1, 0, 5, 1);
        Due.by("18 3 a power of which a has nothing is told too");
        isNotPut(of(1, 3, 0, 0), of(1, 0, 4, 0));
        isPut(of(1, 3, 0, 0), of(1, 0, 0, 3), 1, 0, 0, 9);
    }

    private static void derivative() {
        Due.by("18 4 a's derivative by the first unknown");
        PlainGeometry x = new PlainGeometry();
        int a = Make.sum(x, 5, 0, 0, 0, 7, 0, 1, 0, 2, 1, 0, 3, -3, 3, 1, 0);
        int derived = x.combine(4, a, a);
        Due.is("z z z", x.coefficient(derived, 0, 0, 3), 2);
        Due.is("x x y", x.coefficient(derived, 2, 1, 0), -9);
        Due.is("no number", x.coefficient(derived, 0, 0, 0), 0);
        Due.is("no y", x.coefficient(derived, 0, 1, 0), 0);
        int none = x.combine(4, x.term(5, 1), a);
        Due.is("of another unknown", x.same(none, x.term(0, NONE)), 1);
        Due.is("of a number", x.same(x.combine(4, x.term(5, NONE), a), none), 1);
        PlainGeometry y = new PlainGeometry();
        int tenth = power(y, 0, 10);
        int ninth = y.combine(4, y.combine(2, tenth, y.term(1, NONE)), tenth);
        Due.is("10 x^9", y.coefficient(ninth, 9, 0, 0), 10);
        Due.is("no x^10", y.coefficient(ninth, 10, 0, 0), 0);
        Due.by("18 4: -4 a coefficient too great");
        int square = power(y, 0, 2);
        int half = y.combine(2, square, y.term(MOST / 2, NONE));
        int low = y.combine(2, square, y.term(-MOST / 2, NONE));
        int more = y.combine(2, square, y.term(MOST / 2 + 1, NONE));
        int lower = y.combine(2, square, y.term(-MOST / 2 - 1, NONE));
        Due.is("2^26 x", y.coefficient(y.combine(4, half, half), 1, 0, 0), MOST);
        Due.is("-2^26 x", y.coefficient(y.combine(4, low, low), 1, 0, 0), -MOST);
        Due.is("above", y.combine(4, more, half), -4);
        Due.is("below", y.combine(4, lower, half), -4);
        Due.is("2^26", y.coefficient(y.combine(4, y.term(MOST, 0), half), 0, 0, 0), MOST);
        Due.is("2^26 x^10", y.combine(4, y.combine(2, tenth, y.term(MOST, NONE)), half), -4);
        Due.by("18 4 (b is any POLYNOMIAL)");
        for (int b = 0; b < Stock.POLYNOMIALS; b++) {
            PlainGeometry z = Stock.made();
            Due.is("b " + b, z.combine(4, Stock.X, b), Stock.POLYNOMIALS);
            Due.is("1", z.coefficient(Stock.POLYNOMIALS, 0, 0, 0), 1);
        }
    }

    private static void wrongCombined() {
        Due.by("18 -1");
        for (int op = 0; op < 5; op++) {
            int o = op;
            for (int none : UNKNOWN) {
                Stock.refuses("a " + none + " by " + op, x -> x.combine(o, none, Stock.X), -1);
                Stock.refuses("b " + none + " by " + op, x -> x.combine(o, Stock.X, none), -1);
                Stock.refuses("-1 before -4 by " + op, x -> x.combine(o, Stock.GREAT, none), -1);
            }
            Stock.refuses("the next a", x -> x.combine(o, Stock.POLYNOMIALS, Stock.X), -1);
            Stock.refuses("the next b", x -> x.combine(o, Stock.X, Stock.POLYNOMIALS), -1);
        }
        for (int op : new int[] {-1, -2, 5, 6, Make.TINY, Make.HUGE}) {
            Stock.refuses("op " + op, x -> x.combine(op, Stock.X, Stock.Y), -1);
            Stock.refuses("op " + op + " of great ones", x -> x.combine(op, Stock.GREAT, Stock.GREAT), -1);
        }
    }

    private static void coefficient() {
        Due.by("19 The coefficient of exponents i, j, k; 0 for others");
        PlainGeometry x = new PlainGeometry();
        int first = power(x, 0, 10);
        int second = power(x, 1, 10);
        int third = power(x, 2, 10);
        int all = x.combine(0, x.combine(0, first, x.combine(0, second, third)), x.term(4, NONE));
        Due.is("10, 0, 0", x.coefficient(all, 10, 0, 0), 1);
        Due.is("0, 10, 0", x.coefficient(all, 0, 10, 0), 1);
        Due.is("0, 0, 10", x.coefficient(all, 0, 0, 10), 1);
        Due.is("0, 0, 0", x.coefficient(all, 0, 0, 0), 4);
        int[][] others = {{11, 0, 0}, {0, 11, 0}, {0, 0, 11}, {-1, 0, 0}, {0, -1, 0}, {0, 0, -1}, {10, 1, 0}, {10, 0, 1}, {0, 10, 1},
            {1, 10, 0}, {1, 0, 10}, {0, 1, 10}, {9, 1, 0}, {9, 0, 1}, {11, -1, 0}, {-1, 11, 0}, {-1, 1, 0}, {-1, 0, 1}, {0, -1, 1}, {1, 0, -1},
            {1, -1, 0}, {10, -10, 10}, {-10, 10, 10}, {10, 10, -10}, {10, 10, 10}, {Make.HUGE, 0, 0}, {0, Make.HUGE, 0}, {0, 0, Make.HUGE},
            {Make.TINY, 0, 0}, {0, Make.TINY, 0}, {0, 0, Make.TINY}, {Make.HUGE, Make.HUGE, Make.HUGE}, {Make.HUGE, 1, Make.TINY},
            {Make.TINY, Make.TINY, 0}, {5, 5, 0}};
        for (int[] e : others) {
            Due.is(e[0] + ", " + e[1] + ", " + e[2], x.coefficient(all, e[0], e[1], e[2]), 0);
        }
        PlainGeometry full = new PlainGeometry();
        int one = Make.sum(full, 1, 0, 0, 0, 1, 1, 0, 0, 1, 0, 1, 0, 1, 0, 0, 1);
        int two = full.combine(2, one, one);
        int four = full.combine(2, two, two);
        int ten = full.combine(2, full.combine(2, four, four), two);
        Due.is("2, 3, 4 of 10", full.coefficient(ten, 2, 3, 4), 12600);
        Due.is("5, 5, 0", full.coefficient(ten, 5, 5, 0), 252);
        Due.is("0, 0, 10", full.coefficient(ten, 0, 0, 10), 1);
        for (int i = 0; i <= 11; i++) {
            for (int j = 0; j <= 11 - i; j++) {
                Due.is(i + ", " + j + ", the next", full.coefficient(ten, i, j, 11 - i - j), 0);
                Due.is(i + ", " + j + ", -1", full.coefficient(ten, i, j, -1), 0);
            }
        }
        for (int[] e : others) {
            boolean isOne = Math.min(e[0], Math.min(e[1], e[2])) >= 0 && (long) e[0] + e[1] + e[2] <= 10;
            Due.is("full " + e[0] + ", " + e[1] + ", " + e[2], full.coefficient(ten, e[0], e[1], e[2]) != 0, isOne);
        }
        PlainGeometry y = Stock.made();
        for (int none : UNKNOWN) {
            Due.is("of " + none, y.coefficient(none, 0, 0, 0) + y.coefficient(none, 1, 0, 0), 0);
        }
        Due.is("of the next", y.coefficient(Stock.POLYNOMIALS, 0, 0, 0), 0);
        Due.is("of the last", y.coefficient(Stock.POLYNOMIALS - 1, 0, 1, 0), 1);
    }

    private static void same() {
        Due.by("20 Whether two POLYNOMIALS are the same: 1, 0");
        PlainGeometry x = new PlainGeometry();
        int first = power(x, 0, 10);
        int third = power(x, 2, 10);
        int one = x.term(1, NONE);
        int sum = x.combine(0, first, x.combine(0, third, one));
        int back = x.combine(0, one, x.combine(0, third, first));
        Due.is("made in another order", x.same(sum, back), 1);
        Due.is("itself", x.same(sum, sum), 1);
        Due.is("one more", x.same(sum, x.combine(0, back, one)), 0);
        Due.is("z^10 more", x.same(sum, x.combine(0, back, third)), 0);
        Due.is("x^10 less", x.same(x.combine(1, back, first), sum), 0);
        Due.is("nothing", x.same(x.combine(1, sum, back), x.term(0, 1)), 1);
        Due.is("1 and -1", x.same(one, x.term(-1, NONE)), 0);
        Due.is("1 and x", x.same(one, x.term(1, 0)), 0);
        Due.by("20 -1");
        PlainGeometry y = Stock.made();
        for (int none : UNKNOWN) {
            Due.is("a " + none, y.same(none, Stock.X), -1);
            Due.is("b " + none, y.same(Stock.X, none), -1);
            Due.is("both " + none, y.same(none, none), -1);
        }
        Due.is("the next", y.same(Stock.X, Stock.POLYNOMIALS), -1);
        Due.is("the next of its own", y.same(Stock.POLYNOMIALS, Stock.POLYNOMIALS), -1);
    }

    /** What a POLYNOMIAL is for up / down in place of its unknowns. */
    private static void isValue(PlainGeometry x, int a, long[] at, long up, long down) {
        int many = x.count(0) + 3;
        int got = x.value(a, x.fraction(at[0], at[1]), x.fraction(at[2], at[3]), x.fraction(at[4], at[5]));
        Due.is("value of " + a, got, many);
        Make.isNumber("value of " + a, x, got, up, down);
    }

    private static void notSmall(PlainGeometry x, int a, long... at) {
        int p = x.fraction(at[0], at[1]);
        int q = x.fraction(at[2], at[3]);
        int r = x.fraction(at[4], at[5]);
        String before = Refused.state(x);
        Due.is("value of " + a, x.value(a, p, q, r), -4);
        Due.is("nothing changes", Refused.state(x).equals(before));
    }

    private static long[] at(long... at) {
        return at;
    }

    private static void value() {
        Due.by("21 The NUMBER that a POLYNOMIAL is for NUMBERS x, y, z in place of its unknowns");
        PlainGeometry x = new PlainGeometry();
        int a = Make.sum(x, 2, 2, 0, 0, -3, 0, 1, 0, 5, 0, 0, 3, 7, 0, 0, 0);
        isValue(x, a, at(1, 2, 2, 1, -1, 1), -7, 2);
        isValue(x, a, at(0, 1, 0, 1, 0, 1), 7, 1);
        isValue(x, a, at(-1, 2, 1, 3, 0, 1), 13, 2);
        isValue(x, x.term(0, 0), at(1, 2, 1, 2, 1, 2), 0, 1);
        isValue(x, x.term(MOST, NONE), at(1 << 30, 1, 1 << 30, 1, 1 << 30, 1), MOST, 1);
        isValue(x, x.term(-MOST, 2), at(1 << 30, 1, 1 << 30, 1, -16, 1), SMALL, 1);
    }

    private static void valueOrder() {
        Due.by("21 a coefficient, times x i times, y j times, z k times: in this order");
        PlainGeometry x = new PlainGeometry();
        int xy = Make.sum(x, 1, 1, 1, 0);
        int yz = Make.sum(x, 1, 0, 1, 1);
        int xxy = Make.sum(x, 1, 2, 1, 0);
        isValue(x, xy, at(1L << 30, 1, 1, 2, 0, 1), 1L << 29, 1);
        isValue(x, xy, at(0, 1, 1L << 30, 1, 0, 1), 0, 1);
        isValue(x, xxy, at(1 << 15, 1, 1, 1L << 30, 0, 1), 1, 1);
        notSmall(x, xxy, (1 << 15) + 1, 1, 1, 1L << 30, 0, 1);
        notSmall(x, xxy, (1 << 15) + 1, 1, 0, 1, 0, 1);
        isValue(x, yz, at(0, 1, 1L << 30, 1, 1, 1L << 30), 1, 1);
        int yyz = Make.sum(x, 1, 0, 2, 1);
        notSmall(x, yyz, 0, 1, (1 << 15) + 1, 1, 0, 1);
        isValue(x, Make.sum(x, 1, 0, 1, 2), at(0, 1, 0, 1, 1L << 30, 1), 0, 1);
        Due.by("21 the coefficient comes first");
        PlainGeometry y = new PlainGeometry();
        int great = y.combine(2, y.term(MOST, 0), y.term(1, 1));
        isValue(y, great, at(16, 1, 1, 16, 0, 1), MOST, 1);
        notSmall(y, great, 17, 1, 1, 17, 0, 1);
        isValue(y, great, at(1, 17, 17, 1, 0, 1), MOST, 1);
        Due.by("21 from 0, by exponents i, then j, then k, going up, added to what there is");
        PlainGeometry z = new PlainGeometry();
        int sum = Make.sum(z, 1, 1, 0, 0, 1, 0, 1, 0, 1, 0, 0, 1);
        isValue(z, sum, at(1L << 30, 1, -(1L << 30), 1, 1L << 30, 1), 1L << 30, 1);
        notSmall(z, sum, -(1L << 30), 1, 1L << 30, 1, 1L << 30, 1);
        isValue(z, sum, at(1L << 30, 1, 1L << 30, 1, -(1L << 30), 1), 1L << 30, 1);
        int byOne = Make.sum(z, 1, 0, 1, 1, 1, 0, 2, 0, 1, 1, 0, 0);
        notSmall(z, byOne, -(1L << 30), 1, 1 << 15, 1, 1, 1 << 15);
        isValue(z, byOne, at(-1, 1, 1 << 15, 1, -1, 1 << 15), (1L << 30) - 2, 1);
    }

    private static void valueSmall() {
        Due.by("21 each of these must be SMALL: n");
        PlainGeometry x = new PlainGeometry();
        int square = power(x, 0, 2);
        int minus = x.combine(1, x.term(0, 0), square);
        isValue(x, square, at(1 << 15, 1, 0, 1, 0, 1), SMALL, 1);
        isValue(x, minus, at(1 << 15, 1, 0, 1, 0, 1), -SMALL, 1);
        notSmall(x, square, (1 << 15) + 1, 1, 0, 1, 0, 1);
        notSmall(x, minus, (1 << 15) + 1, 1, 0, 1, 0, 1);
        int more = x.combine(0, square, x.term(1, 1));
        notSmall(x, more, 1 << 15, 1, 1, 1, 0, 1);
        isValue(x, more, at(1 << 15, 1, -1, 1, 0, 1), SMALL - 1, 1);
        Due.by("21 each of these must be SMALL: d");
        isValue(x, square, at(1, 1 << 15, 0, 1, 0, 1), 1, SMALL);
        notSmall(x, square, 1, (1 << 15) + 1, 0, 1, 0, 1);
        int sum = x.combine(0, x.term(1, 0), x.term(1, 1));
        isValue(x, sum, at(1, 1 << 15, 1, (1 << 15) - 1, 0, 1), 65535, 32768L * 32767);
        notSmall(x, sum, 1, 1 << 15, 1, (1 << 15) + 1, 0, 1);
        int back = x.combine(1, sum, x.term(1, 2));
        isValue(x, back, at(1, 1 << 15, 1, 3, 1, 3), 1, 1 << 15);
    }

    private static void wrongValue() {
        Due.by("21 -1");
        for (int none : new int[] {-1, -2, Stock.NUMBERS, 200, Make.TINY, Make.HUGE}) {
            Stock.refuses("POLYNOMIAL " + none, x -> x.value(none, Stock.ONE, Stock.ONE, Stock.ONE), -1);
            Stock.refuses("x " + none, x -> x.value(Stock.X, none, Stock.ONE, Stock.ONE), -1);
            Stock.refuses("y " + none, x -> x.value(Stock.X, Stock.ONE, none, Stock.ONE), -1);
            Stock.refuses("z " + none, x -> x.value(Stock.X, Stock.ONE, Stock.ONE, none), -1);
            Stock.refuses("z of a number " + none, x -> x.value(Stock.GREAT, Stock.ONE, Stock.ONE, none), -1);
        }
        Stock.refuses("the next POLYNOMIAL", x -> x.value(Stock.POLYNOMIALS, Stock.ONE, Stock.ONE, Stock.ONE), -1);
        Due.by("21 -1; -4: in this order");
        Refused.Call great = x -> {
            Stock.make(x);
            x.combine(2, Stock.X, Stock.X);
            return 0;
        };
        Refused.is("too great", great, x -> x.value(Stock.POLYNOMIALS, Stock.BIG, Stock.ONE, Stock.ONE), -4);
        Refused.is("too great, z unknown", great, x -> x.value(Stock.POLYNOMIALS, Stock.BIG, Stock.ONE, Stock.NUMBERS), -1);
    }
}
