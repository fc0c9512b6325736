/** What tests make on an object, and how they look at what was made. */
final class Make {
    static final int HUGE = Integer.MAX_VALUE;
    static final int TINY = Integer.MIN_VALUE;

    private Make() {
    }

    static int whole(PlainGeometry x, long v) {
        return x.fraction(v, 1);
    }

    static int point(PlainGeometry x, long px, long py) {
        return x.step(0, whole(x, px), whole(x, py));
    }

    /** The POINT at xUp / xDown, yUp / yDown. */
    static int part(PlainGeometry x, long xUp, long xDown, long yUp, long yDown) {
        return x.step(0, x.fraction(xUp, xDown), x.fraction(yUp, yDown));
    }

    static int line(PlainGeometry x, long ax, long ay, long bx, long by) {
        return x.step(1, point(x, ax, ay), point(x, bx, by));
    }

    /** The POINT far away in a direction, as what two parallel lines have in common. */
    static int far(PlainGeometry x, long dx, long dy) {
        int a = line(x, 0, 0, dx, dy);
        return x.step(2, a, x.step(5, point(x, dy + 1, -dx - 1), a));
    }

    static int allFar(PlainGeometry x) {
        return x.step(1, far(x, 1, 0), far(x, 0, 1));
    }

    /** The CIRCLE around m through p. */
    static int around(PlainGeometry x, long mx, long my, long px, long py) {
        return x.step(12, point(x, mx, my), point(x, px, py));
    }

    /** The CIRCLE over p and q. */
    static int over(PlainGeometry x, long px, long py, long qx, long qy) {
        return x.step(13, point(x, px, py), point(x, qx, qy));
    }

    static int shape(PlainGeometry x, int... places) {
        int p = x.polygon();
        for (int i = 0; i + 1 < places.length; i += 2) {
            x.corner(p, places[i], places[i + 1]);
        }
        return p;
    }

    /** A POLYNOMIAL of terms, each told as v, i, j, k. */
    static int sum(PlainGeometry x, long... terms) {
        int sum = -1;
        for (int t = 0; t + 3 < terms.length; t += 4) {
            int term = x.term(terms[t], PlainGeometry.NONE);
            for (int unknown = 0; unknown < 3; unknown++) {
                term = times(x, term, unknown, (int) terms[t + 1 + unknown]);
            }
            sum = sum < 0 ? term : x.combine(0, sum, term);
        }
        return sum;
    }

    private static int times(PlainGeometry x, int term, int unknown, int often) {
        if (often == 0) {
            return term;
        }
        int factor = x.term(1, unknown);
        int product = term;
        for (int i = 0; i < often; i++) {
            product = x.combine(2, product, factor);
        }
        return product;
    }

    static void isThing(String call, PlainGeometry x, int t, int sort, long... parts) {
        Due.is(call + " sort of " + t, x.thing(t, 0), sort);
        for (int i = 0; i < parts.length; i++) {
            Due.is(call + " part " + i, x.thing(t, i + 1), parts[i]);
        }
    }

    static void isPoint(String call, PlainGeometry x, int t, long px, long py, long pw) {
        isThing(call, x, t, 0, px, py, pw);
    }

    static void isLine(String call, PlainGeometry x, int t, long a, long b, long c) {
        isThing(call, x, t, 1, a, b, c);
    }

    static void isCircle(String call, PlainGeometry x, int t, long k, long a, long b, long c) {
        isThing(call, x, t, 2, k, a, b, c);
    }

    static void isNumber(String call, PlainGeometry x, int a, long up, long down) {
        Due.is(call + " is a number: " + a, a >= 0);
        Due.is(call + " n", x.numberOf(a, 0), up);
        Due.is(call + " d", x.numberOf(a, 1), down);
    }

    /** 1 if fraction throws what the document names, 0 if nothing. */
    static int throwsOf(PlainGeometry x, long up, long down) {
        try {
            x.fraction(up, down);
            return 0;
        } catch (ArithmeticException e) {
            return 1;
        }
    }
}
