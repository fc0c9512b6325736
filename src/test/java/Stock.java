/** An object with something of every sort, each by a name. */
final class Stock {
    // NUMBERS
    static final int ZERO = 0;
    static final int FOUR = 1;
    static final int TWO = 2;
    static final int ONE = 3;
    static final int BIG = 4;
    static final int NUMBERS = 5;
    // POINTS, FAR ones, LINES, CIRCLES
    static final int ORIGIN = 0;
    static final int P = 1;
    static final int Q = 2;
    static final int AXIS = 3;
    static final int SLOPE = 4;
    static final int RING = 5;
    static final int NORTH = 6;
    static final int ACROSS = 7;
    static final int ALL_FAR = 8;
    static final int ORIGIN_AGAIN = 9;
    static final int EAST = 10;
    static final int ALONG = 11;
    static final int INNER_RING = 12;
    static final int AXIS_AGAIN = 13;
    static final int THINGS = 14;
    // POLYGONS
    static final int TRIANGLE = 0;
    static final int NO_CORNERS = 1;
    static final int CROSS = 2;
    static final int TWELVE = 3;
    static final int POLYGONS = 4;
    // POLYNOMIALS
    static final int X = 0;
    static final int GREAT = 1;
    static final int Y = 2;
    static final int POLYNOMIALS = 3;

    static final int[] UNKNOWN = {-1, -2, -9, 200, Make.TINY, Make.HUGE};

    private Stock() {
    }

    static long make(PlainGeometry x) {
        long[] numbers = {0, 4, 2, 1, 1 << 30};
        for (long v : numbers) {
            x.fraction(v, 1);
        }
        x.step(0, ZERO, ZERO);
        x.step(0, FOUR, ZERO);
        x.step(0, TWO, ONE);
        x.step(1, ORIGIN, P);
        x.step(1, ORIGIN, Q);
        x.step(12, ORIGIN, P);
        x.step(10, AXIS, RING);
        x.step(10, SLOPE, RING);
        x.step(1, NORTH, ACROSS);
        x.step(0, ZERO, ZERO);
        x.step(2, AXIS, ALL_FAR);
        x.step(2, SLOPE, ALL_FAR);
        x.step(12, ORIGIN, Q);
        x.step(1, P, ORIGIN);
        Make.shape(x, 0, 0, 4, 0, 0, 4);
        x.polygon();
        Make.shape(x, 0, 0, 4, 4, 4, 0, 0, 4);
        x.polygon();
        for (int i = 0; i < 12; i++) {
            x.corner(TWELVE, i, i * i);
        }
        x.term(1, 0);
        x.term(1 << 26, PlainGeometry.NONE);
        x.term(1, 1);
        return 0;
    }

    static PlainGeometry made() {
        PlainGeometry x = new PlainGeometry();
        make(x);
        return x;
    }

    /** A call that the stock refuses: it answers as due, and changes nothing. */
    static void refuses(String told, Refused.Call call, long due) {
        Refused.is(told, Stock::make, call, due);
    }

    /** That the names tell what there is. */
    static void look() {
        PlainGeometry x = made();
        int[] due = {NUMBERS, THINGS, POLYGONS, POLYNOMIALS};
        for (int what = 0; what < 4; what++) {
            Due.is("stock " + what, x.count(what), due[what]);
        }
        Make.isPoint("origin", x, ORIGIN, 0, 0, 1);
        Make.isPoint("p", x, P, 4, 0, 1);
        Make.isPoint("q", x, Q, 2, 1, 1);
        Make.isLine("axis", x, AXIS, 0, 1, 0);
        Make.isLine("slope", x, SLOPE, -1, 2, 0);
        Make.isCircle("ring", x, RING, 1, 0, 0, -16);
        Make.isPoint("north", x, NORTH, 0, 1, 0);
        Make.isPoint("across", x, ACROSS, -1, 2, 0);
        Make.isLine("all far", x, ALL_FAR, 0, 0, 1);
        Make.isPoint("origin again", x, ORIGIN_AGAIN, 0, 0, 1);
        Make.isPoint("east", x, EAST, 1, 0, 0);
        Make.isPoint("along", x, ALONG, 2, 1, 0);
        Make.isCircle("inner ring", x, INNER_RING, 1, 0, 0, -5);
        Make.isLine("axis again", x, AXIS_AGAIN, 0, 1, 0);
    }
}
