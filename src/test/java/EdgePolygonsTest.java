/** The edges that the document names of POLYGONS: promises 12 to 16. */
final class EdgePolygonsTest {
    private static final int SIMPLE = 1;
    private static final int AREA = 2;
    private static final int AROUND = 3;
    private static final int CONVEX = 4;
    private static final int IN = 5;
    private static final int ON = 6;
    private static final int TRIANGULATIONS = 7;
    private static final int GREATEST = 8;

    public static void main(String[] args) {
        polygon();
        corners();
        places();
        simple();
        area();
        aroundAll();
        convex();
        wholePlaces();
        triangulations();
        greatest();
        wrongAsked();
        place();
        placeWrong();
        around();
        Due.end();
    }

    private static void tells(int what, long due, int... places) {
        PlainGeometry x = new PlainGeometry();
        Make.shape(x, 9, 9, 5, 1);
        int p = Make.shape(x, places);
        Due.is("polygonOf of " + java.util.Arrays.toString(places), x.polygonOf(p, what), due);
    }

    private static void polygon() {
        Due.by("3 POLYGONS (12 at most)");
        PlainGeometry x = new PlainGeometry();
        for (int i = 0; i < 12; i++) {
            Due.is("not yet", x.polygonOf(i, 0), -1);
            Due.is("polygon", x.polygon(), i);
            Due.is("without corners", x.polygonOf(i, 0), 0);
            Due.is("count", x.count(2), i + 1);
        }
        Due.is("one more", x.polygon(), -4);
        Due.is("still 12", x.count(2), 12);
        Due.is("corner of the last", x.corner(11, 3, 4), 1);
        Due.is("corner of none", x.corner(12, 3, 4), -1);
        Refused.is("one more", y -> {
            for (int i = 0; i < 12; i++) {
                Make.shape(y, i, i, i + 1, i);
            }
            return 0;
        }, y -> y.polygon(), -4);
        Due.by("12 A new POLYGON without corners");
        PlainGeometry z = new PlainGeometry();
        Make.shape(z, 1, 2, 3, 4);
        Due.is("second", z.polygon(), 1);
        Due.is("without", z.polygonOf(1, 0), 0);
        Due.is("first as it was", z.polygonOf(0, 0), 2);
    }

    private static void corners() {
        Due.by("have CORNERS, 3 to 12");
        PlainGeometry x = Stock.made();
        for (int i = 0; i < 12; i++) {
            Due.is("corner", x.corner(Stock.NO_CORNERS, i, i * i), i + 1);
            Due.is("how many", x.polygonOf(Stock.NO_CORNERS, 0), i + 1);
            Due.is("SIMPLE from three on", x.polygonOf(Stock.NO_CORNERS, SIMPLE), i >= 2 ? 1 : 0);
        }
        Due.is("thirteenth", x.corner(Stock.NO_CORNERS, 12, 144), -4);
        Due.is("still 12", x.polygonOf(Stock.NO_CORNERS, 0), 12);
        Stock.refuses("a thirteenth", y -> y.corner(Stock.TWELVE, 0, 0), -4);
        Due.by("13 -1; -2 x or y; -4 twelve: in this order");
        Stock.refuses("-2 before -4, x", y -> y.corner(Stock.TWELVE, 1001, 0), -2);
        Stock.refuses("-2 before -4, y", y -> y.corner(Stock.TWELVE, 0, -1001), -2);
        for (int none : new int[] {-1, -2, Stock.POLYGONS, 12, Make.TINY, Make.HUGE}) {
            Stock.refuses("of " + none, y -> y.corner(none, 0, 0), -1);
            Stock.refuses("-1 before -2 of " + none, y -> y.corner(none, 1001, -1001), -1);
        }
    }

    private static void places() {
        Due.by("NEAR POINTS of whole places, each at most 1000 in size");
        PlainGeometry x = new PlainGeometry();
        int p = x.polygon();
        Due.is("1000, 1000", x.corner(p, 1000, 1000), 1);
        Due.is("-1000, 1000", x.corner(p, -1000, 1000), 2);
        Due.is("-1000, -1000", x.corner(p, -1000, -1000), 3);
        Due.is("1000, -1000", x.corner(p, 1000, -1000), 4);
        Due.is("area", x.polygonOf(p, AREA), 8000000);
        int[] beyond = {1001, -1001, 1002, 2000, Make.TINY, Make.TINY + 1, Make.HUGE};
        for (int v : beyond) {
            Stock.refuses("x " + v, y -> y.corner(Stock.TRIANGLE, v, 0), -2);
            Stock.refuses("y " + v, y -> y.corner(Stock.TRIANGLE, 0, v), -2);
            Stock.refuses("both " + v, y -> y.corner(Stock.TRIANGLE, v, v), -2);
            Stock.refuses("x " + v + " with the last y", y -> y.corner(Stock.TRIANGLE, v, 1000), -2);
        }
    }

    private static void simple() {
        Due.by("SIMPLE if they are 3 at least");
        tells(SIMPLE, 0);
        tells(SIMPLE, 0, 3, 3);
        tells(SIMPLE, 0, 0, 0, 3, 3);
        tells(SIMPLE, 1, 0, 0, 3, 3, 0, 3);
        tells(SIMPLE, 1, 0, 3, 3, 3, 0, 0);
        Due.by("SIMPLE: no two at one place");
        tells(SIMPLE, 0, 0, 0, 0, 0, 3, 3, 0, 3);
        tells(SIMPLE, 0, 0, 0, 3, 3, 0, 3, 0, 0);
        tells(SIMPLE, 0, 0, 0, 3, 3, 0, 3, 0, 3);
        tells(SIMPLE, 0, 0, 0, 4, -2, 4, 2, 0, 0, -4, 2, -4, -2);
        tells(SIMPLE, 0, 0, 0, 3, 3, 0, 0);
        tells(SIMPLE, 0, 2, 2, 2, 2, 2, 2);
        tells(SIMPLE, 0, 0, 0, 0, 0, 3, 3);
        tells(SIMPLE, 0, 0, 0, 3, 3, 3, 3);
        Due.by("SIMPLE: no two sides have a place in common");
        tells(SIMPLE, 0, 0, 0, 4, 4, 4, 0, 0, 4);
        tells(SIMPLE, 1, 0, 0, 4, 0, 4, 4, 0, 4);
        tells(SIMPLE, 0, 0, 0, 4, 0, 4, 4, 2, 0, 0, 4);
        tells(SIMPLE, 1, 0, 0, 4, 0, 4, 4, 2, 1, 0, 4);
        tells(SIMPLE, 0, 0, 0, 4, 0, 4, 4, 2, -1, 0, 4);
        tells(SIMPLE, 0, 2, 0, 4, 4, 0, 4, 0, 0, 4, 0);
        tells(SIMPLE, 0, 0, 0, 6, 0, 6, 2, 4, 0, 2, 0, 0, 2);
        tells(SIMPLE, 0, 0, 0, 6, 0, 6, 2, 2, 0, 4, 0, 0, 2);
        tells(SIMPLE, 0, 0, 0, 2, 5, 4, 0, -1, 3, 5, 3);
        tells(SIMPLE, 1, 0, 0, 1000, 1000, 1000, 999, -1, -1, -1000, 1000);
        tells(SIMPLE, 0, 0, 0, 1000, 1000, 1000, 999, -1, 0, -1000, 1000);
        tells(SIMPLE, 1, 0, 0, 1000, 1000, 1000, 999, 1, 0, 0, -1000);
        // each corner is beside the other side by the least that there is
        tells(SIMPLE, 0, 0, 0, 2, 1, 1, 1, 1, 0);
        tells(SIMPLE, 0, 0, 0, 1, 2, 1, 1, 0, 1);
        tells(SIMPLE, 0, 1, 1, 1, 0, 0, 0, 2, 1);
        tells(SIMPLE, 0, 1, 1, 0, 1, 0, 0, 1, 2);
        Due.by("SIMPLE: but neighbours their corner");
        tells(SIMPLE, 0, 0, 0, 4, 0, 2, 0);
        flat(1, 0, 3, 0);
        flat(-1, 0, -5, 0);
        flat(0, 1, 0, 4);
        flat(0, -2, 0, -3);
        flat(1, 1, 3, 3);
        flat(2, -1, 4, -2);
        flat(-1, 2, -3, 6);
        tells(SIMPLE, 0, 0, 0, 4, 0, 2, 0, 2, 4);
        tells(SIMPLE, 0, 2, 0, 2, 4, 0, 0, 4, 0);
        tells(SIMPLE, 0, 4, 0, 2, 0, 2, 4, 0, 0);
        tells(SIMPLE, 0, 0, 0, 4, 0, 4, 4, 4, 2, 0, 4);
        tells(SIMPLE, 1, 0, 0, 1, 0, 4, 0, 2, 4);
        tells(SIMPLE, 1, 0, 0, 3, 0, 4, 0, 2, 4);
        tells(SIMPLE, 1, 0, 0, 0, 1, 0, 4, 2, 2);
        tells(SIMPLE, 1, 0, 0, 0, 3, 0, 4, 2, 2);
        tells(SIMPLE, 1, 0, 0, 1, 2, 4, 8, 2, 9);
        tells(SIMPLE, 1, 0, 0, 2, 0, 4, 0, 2, 4);
        tells(SIMPLE, 1, 2, 0, 4, 0, 2, 4, 0, 0);
        tells(SIMPLE, 1, 4, 0, 2, 4, 0, 0, 2, 0);
    }

    /** Three corners on one line, from 5, 7 to a nearer and a farther one: in each order. */
    private static void flat(int x, int y, int farX, int farY) {
        int[][] at = {{5, 7}, {5 + x, 7 + y}, {5 + farX, 7 + farY}};
        for (int first = 0; first < 3; first++) {
            for (int turn = 1; turn < 3; turn++) {
                int[] second = at[(first + turn) % 3];
                int[] third = at[(first + 2 * turn) % 3];
                tells(SIMPLE, 0, at[first][0], at[first][1], second[0], second[1], third[0], third[1]);
            }
        }
    }

    private static void area() {
        Due.by("14 2 twice its area as its corners go (to the left above 0)");
        tells(AREA, 0);
        tells(AREA, 0, 7, 7);
        tells(AREA, 0, 7, 7, 2, 3);
        tells(AREA, 12, 1, 1, 5, 1, 1, 4);
        tells(AREA, -12, 1, 1, 1, 4, 5, 1);
        tells(AREA, 1, 0, 0, 1, 0, 0, 1);
        tells(AREA, 0, 0, 0, 4, 4, 4, 0, 0, 4);
        tells(AREA, 0, 0, 0, 2, 2, 4, 4);
        tells(AREA, -8000000, -1000, -1000, -1000, 1000, 1000, 1000, 1000, -1000);
    }

    private static void aroundAll() {
        Due.by("14 3 corners of the least convex one around all (only ends of its sides)");
        tells(AROUND, 0);
        tells(AROUND, 1, 7, 7);
        tells(AROUND, 1, 7, 7, 7, 7, 7, 7);
        tells(AROUND, 2, 7, 7, 7, 8);
        tells(AROUND, 2, 0, 0, 2, 2, 4, 4, 1, 1);
        tells(AROUND, 2, 0, 5, 0, -5, 0, 0);
        tells(AROUND, 3, 0, 0, 4, 0, 0, 4);
        tells(AROUND, 3, 0, 0, 2, 0, 4, 0, 2, 2, 0, 4, 0, 2);
        tells(AROUND, 3, 0, 0, 4, 0, 1, 1, 0, 4);
        tells(AROUND, 4, 0, 0, 4, 4, 4, 0, 0, 4);
        tells(AROUND, 4, 0, 0, 4, 4, 4, 0, 0, 4, 0, 0, 4, 4);
        tells(AROUND, 12, 0, 0, 1, 1, 2, 4, 3, 9, 4, 16, 5, 25, 6, 36, 7, 49, 8, 64, 9, 81, 10, 100, 11, 121);
    }

    private static void convex() {
        Due.by("14 4 whether it is SIMPLE and convex (corners on a side may be)");
        tells(CONVEX, 0);
        tells(CONVEX, 0, 1, 1);
        tells(CONVEX, 0, 1, 1, 5, 5);
        tells(CONVEX, 0, 1, 1, 3, 3, 5, 5);
        tells(CONVEX, 1, 0, 0, 4, 0, 0, 4);
        tells(CONVEX, 1, 0, 4, 4, 0, 0, 0);
        tells(CONVEX, 1, 0, 0, 2, 0, 4, 0, 4, 4, 2, 4, 0, 4, 0, 2);
        tells(CONVEX, 1, 0, 2, 0, 4, 2, 4, 4, 4, 4, 0, 2, 0, 0, 0);
        tells(CONVEX, 0, 0, 0, 4, 0, 1, 1, 0, 4);
        tells(CONVEX, 0, 0, 4, 1, 1, 4, 0, 0, 0);
        tells(CONVEX, 0, 0, 0, 500, 1, 1000, 0, 500, 1000);
        tells(CONVEX, 1, 0, 0, 500, -1, 1000, 0, 500, 1000);
        // one corner turns the other way by the least that there is
        tells(CONVEX, 0, 0, 2, 1, 1, 3, 0, 0, 0);
        tells(CONVEX, 0, 0, 0, 3, 0, 1, 1, 0, 2);
        tells(CONVEX, 0, 0, 0, 4, 4, 4, 0, 0, 4);
        // it turns to the left at every corner, twice around
        tells(CONVEX, 0, 0, 5, -3, -4, 5, 2, -5, 2, 3, -4);
    }

    private static void wholePlaces() {
        Due.by("14 5 whole places IN a SIMPLE one (others: -3)");
        tells(IN, -3);
        tells(IN, -3, 1, 1);
        tells(IN, -3, 1, 1, 5, 5);
        tells(IN, -3, 1, 1, 3, 3, 5, 5);
        tells(IN, -3, 0, 0, 4, 4, 4, 0, 0, 4);
        tells(IN, 0, 0, 0, 1, 0, 0, 1);
        tells(IN, 0, 0, 0, 2, 0, 0, 2);
        tells(IN, 1, 0, 0, 3, 0, 0, 3);
        tells(IN, 1, 0, 3, 3, 0, 0, 0);
        tells(IN, 0, 0, 0, 1000, 1, 999, 1);
        tells(IN, 1, 0, 0, 2, 1, 1, 2);
        tells(IN, 1999 * 1999, -1000, -1000, 1000, -1000, 1000, 1000, -1000, 1000);
        tells(IN, 3, 0, 0, 2, 0, 4, 0, 4, 2, 0, 2);
        Due.by("14 6 whole places ON it (-3 likewise)");
        tells(ON, -3);
        tells(ON, -3, 1, 1);
        tells(ON, -3, 1, 1, 5, 5);
        tells(ON, -3, 1, 1, 3, 3, 5, 5);
        tells(ON, -3, 0, 0, 4, 4, 4, 0, 0, 4);
        tells(ON, 3, 0, 0, 1, 0, 0, 1);
        tells(ON, 6, 0, 0, 2, 0, 0, 2);
        tells(ON, 3, 0, 0, 1000, 1, 999, 1);
        tells(ON, 8000, -1000, -1000, 1000, -1000, 1000, 1000, -1000, 1000);
        tells(ON, 12, 0, 0, 2, 0, 4, 0, 4, 2, 0, 2);
    }

    private static void triangulations() {
        Due.by("14 7 TRIANGULATIONS of a SIMPLE one (-3 likewise)");
        tells(TRIANGULATIONS, -3);
        tells(TRIANGULATIONS, -3, 1, 1);
        tells(TRIANGULATIONS, -3, 1, 1, 5, 5);
        tells(TRIANGULATIONS, -3, 1, 1, 3, 3, 5, 5);
        tells(TRIANGULATIONS, -3, 0, 0, 4, 4, 4, 0, 0, 4);
        Due.by("TRIANGULATION: as many diagonals as can be: corners less 3");
        triangulated(1, 0, 0, 4, 0, 0, 4);
        triangulated(1, 0, 4, 4, 0, 0, 0);
        triangulated(2, 0, 0, 4, 0, 4, 4, 0, 4);
        triangulated(5, 0, 0, 4, 0, 5, 3, 2, 5, -1, 3);
        triangulated(16796, 0, 0, 1, 1, 2, 4, 3, 9, 4, 16, 5, 25, 6, 36, 7, 49, 8, 64, 9, 81, 10, 100, 11, 121);
        triangulated(16796, 11, 121, 10, 100, 9, 81, 8, 64, 7, 49, 6, 36, 5, 25, 4, 16, 3, 9, 2, 4, 1, 1, 0, 0);
        Due.by("TRIANGULATION: diagonals that lie within it");
        triangulated(1, 0, 0, 4, 0, 1, 1, 0, 4);
        triangulated(1, 1, 1, 0, 4, 0, 0, 4, 0);
        triangulated(1, 0, 4, 1, 1, 4, 0, 0, 0);
        triangulated(2, 0, 0, 8, 0, 8, 4, 6, 1, 4, 4, 2, 1, 0, 4);
        triangulated(1, 0, 0, 9, 0, 9, 9, 8, 1);
        // the middle of the way from 0, 0 to 10, 0 is within, but sides cut the way elsewhere
        triangulated(5, 0, 0, 5, -5, 10, 0, 10, 10, 8, -1, 7, 10, 0, 10);
        triangulated(2, 0, 0, 10, 0, 10, 4, 2, 2, 10, 8, 0, 8);
        triangulated(5, 0, 0, 6, -6, 12, 0, 12, 9, 9, -2, 8, 9, 4, 9, 3, -2, 0, 9);
        Due.by("TRIANGULATION: (but their ends; no corner on them)");
        triangulated(1, 0, 0, 2, 0, 4, 0, 2, 4);
        triangulated(1, 0, 0, 1, 0, 2, 0, 3, 0, 4, 0, 2, 3);
        triangulated(1, 0, 0, 4, 0, 2, 2, 0, 4);
        // the way from 0, 0 to 4, 4 has the corner 2, 2 on it
        triangulated(2, 0, 0, 4, 0, 4, 4, 2, 2, 0, 4, 0, 3);
    }

    /** From each corner on, both ways around, and moved: the same. */
    private static void triangulated(long due, int... places) {
        int many = places.length / 2;
        for (int turn = 0; turn < 2 * many; turn++) {
            int[] moved = new int[places.length];
            for (int i = 0; i < many; i++) {
                int from = turn < many ? (turn + i) % many : (2 * many + turn - i) % many;
                moved[2 * i] = places[2 * from] + 7 * turn;
                moved[2 * i + 1] = places[2 * from + 1] - 11 * turn;
            }
            tells(TRIANGULATIONS, due, moved);
        }
    }

    private static void greatest() {
        Due.by("14 8 the greatest square of the way of two corners");
        tells(GREATEST, 0);
        tells(GREATEST, 0, 7, 7);
        tells(GREATEST, 0, 7, 7, 7, 7);
        tells(GREATEST, 25, 7, 7, 10, 11);
        tells(GREATEST, 25, 7, 7, 8, 8, 10, 11);
        tells(GREATEST, 1, 0, 0, 1, 0);
        tells(GREATEST, 8000000, 1000, -1000, 0, 0, -1000, 1000);
        tells(GREATEST, 32, 0, 0, 4, 4, 4, 0, 0, 4);
    }

    private static void wrongAsked() {
        Due.by("14 -1; -2 another what: in this order");
        PlainGeometry x = Stock.made();
        for (int what : new int[] {-1, -2, 9, 10, Make.TINY, Make.HUGE}) {
            Due.is("what " + what, x.polygonOf(Stock.TRIANGLE, what), -2);
            Due.is("what " + what + " without corners", x.polygonOf(Stock.NO_CORNERS, what), -2);
            Due.is("what " + what + " of one that is not SIMPLE", x.polygonOf(Stock.CROSS, what), -2);
        }
        for (int none : new int[] {-1, -2, Stock.POLYGONS, 12, Make.TINY, Make.HUGE}) {
            for (int what = -1; what < 10; what++) {
                Due.is("of " + none + " what " + what, x.polygonOf(none, what), -1);
            }
        }
        Due.is("the last", x.polygonOf(Stock.POLYGONS - 1, 0), 12);
    }

    private static void placeOf(long due, int[] corners, long xUp, long xDown, long yUp, long yDown) {
        PlainGeometry x = new PlainGeometry();
        int p = Make.shape(x, corners);
        int t = Make.part(x, xUp, xDown, yUp, yDown);
        Due.is(xUp + "/" + xDown + ", " + yUp + "/" + yDown, x.place(p, t), due);
    }

    private static void place() {
        Due.by("15 2 IN, 1 ON, 0 OUT");
        int[][] both = {{0, 0, 4, 0, 1, 1, 0, 4}, {0, 4, 1, 1, 4, 0, 0, 0}};
        for (int[] dart : both) {
            placeOf(1, dart, 0, 1, 0, 1);
            placeOf(1, dart, 4, 1, 0, 1);
            placeOf(1, dart, 1, 1, 1, 1);
            placeOf(1, dart, 0, 1, 4, 1);
            placeOf(1, dart, 2, 1, 0, 1);
            placeOf(1, dart, 0, 1, 7, 3);
            placeOf(1, dart, 5, 2, 1, 2);
            placeOf(2, dart, 1, 2, 1, 2);
            placeOf(2, dart, 1, 1000, 1, 1000);
            placeOf(2, dart, 999, 1000, 999, 1000);
            placeOf(2, dart, 1, 2, 1, 1);
            placeOf(2, dart, 7, 2, 1, 7);
            placeOf(0, dart, 7, 2, 1, 5);
            placeOf(0, dart, 1001, 1000, 1, 1);
            placeOf(0, dart, 2, 1, 1, 1);
            placeOf(0, dart, -1, 1000, 1, 1);
            placeOf(0, dart, 5, 1, 0, 1);
            placeOf(0, dart, -1, 1, 0, 1);
            placeOf(0, dart, 0, 1, 5, 1);
            placeOf(0, dart, 0, 1, -1, 1);
            placeOf(0, dart, -3, 1, 1, 1);
            placeOf(0, dart, -3, 1, 4, 1);
            placeOf(0, dart, 1 << 20, 1, 1, 1);
            placeOf(0, dart, -(1 << 20), 1, -(1 << 20), 1);
        }
        int[] square = {-1000, -1000, 1000, -1000, 1000, 1000, -1000, 1000};
        placeOf(1, square, 1000, 1, 999, 1);
        placeOf(1, square, -1000, 1, 1000, 1);
        placeOf(2, square, 999999, 1000, 999, 1);
        placeOf(0, square, 1001, 1, 1000, 1);
        placeOf(0, square, 100001, 100, 0, 1);
        // a corner on a side, a comb whose teeth are at the height of the place
        placeOf(1, new int[] {0, 0, 2, 0, 4, 0, 2, 4}, 2, 1, 0, 1);
        int[] comb = {0, 0, 9, 0, 9, 2, 7, 1, 5, 2, 3, 1, 1, 2, 0, 1};
        placeOf(2, comb, 1, 2, 1, 1);
        placeOf(1, comb, 3, 1, 1, 1);
        placeOf(2, comb, 5, 1, 1, 1);
        placeOf(1, comb, 7, 1, 1, 1);
        placeOf(2, comb, 8, 1, 1, 1);
        placeOf(0, comb, 10, 1, 1, 1);
        placeOf(0, comb, -1, 1, 1, 1);
        placeOf(0, comb, -1, 1, 2, 1);
        placeOf(0, comb, 3, 1, 2, 1);
        placeOf(0, comb, 7, 1, 3, 2);
    }

    private static void placeWrong() {
        Due.by("15 -1; -3 it is FAR, or the POLYGON is not SIMPLE");
        PlainGeometry x = Stock.made();
        Due.is("FAR", x.place(Stock.TRIANGLE, Stock.EAST), -3);
        Due.is("FAR by y", x.place(Stock.TRIANGLE, Stock.NORTH), -3);
        Due.is("FAR by both", x.place(Stock.TRIANGLE, Stock.ALONG), -3);
        Due.is("without corners", x.place(Stock.NO_CORNERS, Stock.P), -3);
        Due.is("not SIMPLE", x.place(Stock.CROSS, Stock.P), -3);
        Due.is("both", x.place(Stock.CROSS, Stock.EAST), -3);
        x.corner(Stock.NO_CORNERS, 4, 0);
        Due.is("one corner", x.place(Stock.NO_CORNERS, Stock.P), -3);
        x.corner(Stock.NO_CORNERS, 0, 0);
        Due.is("two corners", x.place(Stock.NO_CORNERS, Stock.P), -3);
        x.corner(Stock.NO_CORNERS, 2, 1);
        Due.is("three corners", x.place(Stock.NO_CORNERS, Stock.P), 1);
        x.corner(Stock.NO_CORNERS, 4, 0);
        Due.is("not SIMPLE any more", x.place(Stock.NO_CORNERS, Stock.P), -3);
        Due.by("15 -1 before -3");
        for (int none : Stock.UNKNOWN) {
            Due.is("of " + none, x.place(none, Stock.P), -1);
            Due.is("FAR of " + none, x.place(none, Stock.EAST), -1);
            Due.is("THING " + none, x.place(Stock.TRIANGLE, none), -1);
            Due.is("THING " + none + " to one that is not SIMPLE", x.place(Stock.CROSS, none), -1);
        }
        Due.is("the next POLYGON", x.place(Stock.POLYGONS, Stock.P), -1);
        Due.is("the next THING", x.place(Stock.TRIANGLE, Stock.THINGS), -1);
        Due.is("a LINE", x.place(Stock.TRIANGLE, Stock.AXIS), -1);
        Due.is("a LINE to one that is not SIMPLE", x.place(Stock.CROSS, Stock.AXIS), -1);
        Due.is("a CIRCLE", x.place(Stock.TRIANGLE, Stock.RING), -1);
    }

    private static void isAround(PlainGeometry x, int p, int... due) {
        for (int i = 0; i < due.length / 2; i++) {
            Due.is("x of " + i, x.around(p, i, 0), due[2 * i]);
            Due.is("y of " + i, x.around(p, i, 1), due[2 * i + 1]);
        }
        for (int no : new int[] {-1, -2, due.length / 2, 12, Make.TINY, Make.HUGE}) {
            Due.is("no " + no, x.around(p, no, 0), -2);
            Due.is("no " + no + ", y", x.around(p, no, 1), -2);
        }
    }

    private static void around() {
        Due.by("16 from the least one by x, then y, to the left; -2 no such i");
        PlainGeometry x = new PlainGeometry();
        isAround(x, x.polygon());
        isAround(x, Make.shape(x, -7, 3), -7, 3);
        isAround(x, Make.shape(x, -7, 3, -7, 3), -7, 3);
        isAround(x, Make.shape(x, 5, 3, -7, 4), -7, 4, 5, 3);
        isAround(x, Make.shape(x, 1, 5, 1, -5, 1, 0), 1, -5, 1, 5);
        isAround(x, Make.shape(x, 4, 4, 0, 4, 0, 0, 4, 0), 0, 0, 4, 0, 4, 4, 0, 4);
        isAround(x, Make.shape(x, 0, 0, 0, 4, 4, 0), 0, 0, 4, 0, 0, 4);
        isAround(x, Make.shape(x, 4, 0, 2, 0, 0, 0, 0, 2, 0, 4, 2, 2, 1, 1), 0, 0, 4, 0, 0, 4);
        isAround(x, Make.shape(x, -1000, 1000, 1000, 1000, 1000, -1000, -1000, -1000),
                -1000, -1000, 1000, -1000, 1000, 1000, -1000, 1000);
        int[] due = new int[24];
        int[] told = new int[24];
        for (int i = 0; i < 12; i++) {
            due[2 * i] = i;
            due[2 * i + 1] = i * i;
            told[2 * (5 * i % 12)] = i;
            told[2 * (5 * i % 12) + 1] = i * i;
        }
        isAround(x, Make.shape(x, told), due);
        Due.by("16 -2 no such what; -1 before -2");
        PlainGeometry y = Stock.made();
        for (int what : new int[] {-1, -2, 2, 3, Make.TINY, Make.HUGE}) {
            Due.is("what " + what, y.around(Stock.TRIANGLE, 0, what), -2);
            Due.is("what " + what + " and i", y.around(Stock.TRIANGLE, 3, what), -2);
        }
        for (int none : new int[] {-1, -2, Stock.POLYGONS, 12, Make.TINY, Make.HUGE}) {
            Due.is("of " + none, y.around(none, 0, 0), -1);
            Due.is("of " + none + " no i", y.around(none, -1, 0), -1);
            Due.is("of " + none + " no what", y.around(none, 0, 2), -1);
        }
    }
}
