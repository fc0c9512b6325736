/** The edges that the document names of THREE and of measure: promises 8 and 10. */
final class EdgeThreesTest {
    private static final int SMALL = 1 << 20;
    private static final int ROOT = 1 << 15;
    private static final String THREE_B = "ppppppptn";
    private static final String MEASURE_A = "ppppcpp";
    private static final String MEASURE_B = "ttpctpl";
    private static final String MEASURE_C = "tttttpt";

    public static void main(String[] args) {
        circleThrough();
        middle();
        heights();
        middleOfCircle();
        circleOfMiddles();
        fourthHarmonic();
        moved();
        turned();
        stretched();
        sortsOfThree();
        xAndY();
        squareOfWay();
        power();
        squareOfRadius();
        area();
        squareToLine();
        sortsOfMeasure();
        Due.end();
    }

    // ---- THREE

    private static void refuses(int kind, int a, int b, int c, long due) {
        Stock.refuses("three(" + kind + ", " + a + ", " + b + ", " + c + ")", x -> x.three(kind, a, b, c), due);
    }

    private static void isPoint(PlainGeometry x, int kind, int a, int b, int c, long px, long py, long pw) {
        String told = "three(" + kind + ", " + a + ", " + b + ", " + c + ")";
        int many = x.count(1);
        int t = x.three(kind, a, b, c);
        Due.is(told, t, many);
        Make.isPoint(told, x, t, px, py, pw);
    }

    private static void refusesOneLine(int kind) {
        refuses(kind, Stock.P, Stock.Q, Stock.Q, -3);
        refuses(kind, Stock.P, Stock.P, Stock.Q, -3);
        refuses(kind, Stock.P, Stock.Q, Stock.P, -3);
        refuses(kind, Stock.P, Stock.P, Stock.P, -3);
        refuses(kind, Stock.P, Stock.ORIGIN, Stock.ORIGIN_AGAIN, -3);
        PlainGeometry x = Stock.made();
        int between = Make.part(x, 4, 3, 0, 1);
        Due.is("on one LINE", x.three(kind, Stock.ORIGIN, Stock.P, between), -3);
        Due.is("the other way", x.three(kind, between, Stock.ORIGIN, Stock.P), -3);
        Due.is("on a slope", x.three(kind, Stock.ORIGIN, Make.point(x, -6, -3), Stock.Q), -3);
        int beside = Make.part(x, 2, 1, 1, 64);
        Due.is("beside the LINE", x.three(kind, Stock.ORIGIN, Stock.P, beside), x.count(1) - 1);
    }

    private static void refusesFar(int kind) {
        refuses(kind, Stock.EAST, Stock.P, Stock.Q, -3);
        refuses(kind, Stock.P, Stock.EAST, Stock.Q, -3);
        refuses(kind, Stock.P, Stock.Q, Stock.EAST, -3);
        refuses(kind, Stock.EAST, Stock.NORTH, Stock.Q, -3);
        refuses(kind, Stock.P, Stock.NORTH, Stock.EAST, -3);
        refuses(kind, Stock.EAST, Stock.P, Stock.NORTH, -3);
        refuses(kind, Stock.EAST, Stock.NORTH, Stock.ALONG, -3);
        refuses(kind, Stock.EAST, Stock.EAST, Stock.EAST, -3);
    }

    private static void circleThrough() {
        Due.by("THREE 0 the CIRCLE through three POINTS (-3 they are on one LINE, or one is FAR)");
        refusesOneLine(0);
        refusesFar(0);
        PlainGeometry x = Stock.made();
        Make.isCircle("through", x, x.three(0, Stock.ORIGIN, Stock.P, Stock.Q), 1, -4, 3, 0);
        Make.isCircle("back", x, x.three(0, Stock.Q, Stock.P, Stock.ORIGIN), 1, -4, 3, 0);
        Due.by("THREE 0: -4 not SMALL");
        int above = Make.point(x, 0, 1024);
        Make.isCircle("C is SMALL", x, x.three(0, Make.point(x, 1024, 0), Make.point(x, -1024, 0), above), 1, 0, 0, -SMALL);
        int higher = Make.point(x, 0, 1025);
        Due.is("C is not", x.three(0, Make.point(x, 1025, 0), Make.point(x, -1025, 0), higher), -4);
    }

    private static void middle() {
        Due.by("THREE 1 the middle of three POINTS (all that follows -3 if one is FAR)");
        refusesFar(1);
        PlainGeometry x = Stock.made();
        isPoint(x, 1, Stock.ORIGIN, Stock.P, Stock.Q, 6, 1, 3);
        isPoint(x, 1, Stock.ORIGIN, Stock.P, Stock.ORIGIN_AGAIN, 4, 0, 3);
        isPoint(x, 1, Stock.Q, Stock.Q, Stock.Q, 2, 1, 1);
        isPoint(x, 1, Make.part(x, 1, 2, 1, 3), Make.part(x, 1, 5, 0, 1), Make.part(x, 1, 7, -1, 1), 177, -140, 630);
        int great = Make.point(x, SMALL, 0);
        int less = Make.point(x, SMALL, 3);
        isPoint(x, 1, great, less, Make.point(x, SMALL, 0), SMALL, 1, 1);
        Due.is("W by three is not SMALL", x.three(1, great, less, Stock.Q), -4);
    }

    private static void heights() {
        Due.by("THREE 2 where the three heights meet (-3 on one LINE)");
        refusesOneLine(2);
        refusesFar(2);
        PlainGeometry x = Stock.made();
        isPoint(x, 2, Stock.ORIGIN, Stock.P, Stock.Q, 2, 4, 1);
        isPoint(x, 2, Stock.Q, Stock.P, Stock.ORIGIN, 2, 4, 1);
        int above = Make.point(x, 0, 3);
        isPoint(x, 2, Stock.ORIGIN, Stock.P, above, 0, 0, 1);
        isPoint(x, 2, Stock.P, Stock.ORIGIN, above, 0, 0, 1);
        isPoint(x, 2, above, Stock.P, Stock.ORIGIN, 0, 0, 1);
        int low = Make.part(x, 2, 1, 1, 1 << 18);
        isPoint(x, 2, Stock.ORIGIN, Stock.P, low, 2, SMALL, 1);
        Due.is("higher", x.three(2, Stock.ORIGIN, Stock.P, Make.part(x, 2, 1, 1, (1 << 18) + 1)), -4);
    }

    private static void middleOfCircle() {
        Due.by("THREE 3 the middle of the CIRCLE through them (-3 on one LINE)");
        refusesOneLine(3);
        refusesFar(3);
        PlainGeometry x = Stock.made();
        isPoint(x, 3, Stock.ORIGIN, Stock.P, Stock.Q, 4, -3, 2);
        int a = Make.point(x, 1025, 0);
        int b = Make.point(x, -1025, 0);
        int c = Make.point(x, 0, 1025);
        isPoint(x, 3, a, b, c, 0, 0, 1);
        Due.is("though the CIRCLE is not SMALL", x.three(0, a, b, c), -4);
    }

    private static void circleOfMiddles() {
        Due.by("THREE 4 the CIRCLE through the three middles of sides (-3 on one LINE)");
        refusesOneLine(4);
        refusesFar(4);
        PlainGeometry x = Stock.made();
        Make.isCircle("of middles", x, x.three(4, Stock.ORIGIN, Stock.P, Stock.Q), 2, -8, -5, 8);
        Make.isCircle("back", x, x.three(4, Stock.Q, Stock.P, Stock.ORIGIN), 2, -8, -5, 8);
        int a = Make.point(x, 1025, 0);
        int b = Make.point(x, -1025, 0);
        int c = Make.point(x, 0, 1025);
        Make.isCircle("of middles", x, x.three(4, a, b, c), 1, 0, -1025, 0);
        Due.is("though the CIRCLE through them is not SMALL", x.three(0, a, b, c), -4);
        Due.by("THREE 4: -4 not SMALL");
        int low = Make.point(x, 0, -1024);
        int right = Make.point(x, 2048, 1024);
        Make.isCircle("C is SMALL", x, x.three(4, low, right, Make.point(x, -2048, 1024)), 1, 0, 0, -SMALL);
        int lower = Make.point(x, 0, -1025);
        int rightmost = Make.point(x, 2050, 1025);
        Due.is("C is not", x.three(4, lower, rightmost, Make.point(x, -2050, 1025)), -4);
    }

    private static void fourthHarmonic() {
        Due.by("THREE 5 the fourth harmonic of c to a, b: on their LINE, with the ways a to c, c to b the other way around than a to d, d to b");
        PlainGeometry x = Stock.made();
        isPoint(x, 5, Stock.ORIGIN, Stock.P, Make.point(x, 1, 0), -2, 0, 1);
        isPoint(x, 5, Stock.ORIGIN, Stock.P, Make.point(x, -2, 0), 1, 0, 1);
        isPoint(x, 5, Stock.ORIGIN, Stock.P, Make.point(x, 3, 0), 6, 0, 1);
        isPoint(x, 5, Stock.P, Stock.ORIGIN, Make.point(x, 3, 0), 6, 0, 1);
        isPoint(x, 5, Stock.ORIGIN, Stock.P, Make.point(x, 8, 0), 8, 0, 3);
        isPoint(x, 5, Stock.ORIGIN, Stock.Q, Make.point(x, 4, 2), 4, 2, 3);
        int above = Make.point(x, 0, 4);
        isPoint(x, 5, Stock.ORIGIN, above, Make.point(x, 0, 1), 0, -2, 1);
        isPoint(x, 5, above, Make.point(x, 0, -2), Stock.ORIGIN, 0, -8, 1);
        isPoint(x, 5, Make.point(x, 3, 0), Make.point(x, 3, 4), Make.point(x, 3, 1), 3, -2, 1);
        isPoint(x, 5, Make.point(x, 0, 3), Make.point(x, 4, 3), Make.point(x, 1, 3), -2, 3, 1);
        Due.by("THREE 5 (it may be FAR");
        isPoint(x, 5, Stock.ORIGIN, Stock.P, Make.point(x, 2, 0), 1, 0, 0);
        isPoint(x, 5, Stock.P, Stock.ORIGIN, Make.point(x, 2, 0), 1, 0, 0);
        isPoint(x, 5, Stock.ORIGIN, Stock.Q, Make.part(x, 1, 1, 1, 2), 2, 1, 0);
        isPoint(x, 5, Stock.ORIGIN, above, Make.point(x, 0, 2), 0, 1, 0);
        Due.by("THREE 5 (a, b not the same, c on their LINE, not a or b; else -3)");
        refuses(5, Stock.P, Stock.P, Stock.Q, -3);
        refuses(5, Stock.ORIGIN, Stock.ORIGIN_AGAIN, Stock.P, -3);
        refuses(5, Stock.P, Stock.P, Stock.P, -3);
        refuses(5, Stock.ORIGIN, Stock.P, Stock.Q, -3);
        refuses(5, Stock.ORIGIN, Stock.P, Stock.ORIGIN, -3);
        refuses(5, Stock.ORIGIN, Stock.P, Stock.ORIGIN_AGAIN, -3);
        refuses(5, Stock.P, Stock.ORIGIN, Stock.ORIGIN_AGAIN, -3);
        refuses(5, Stock.ORIGIN, Stock.P, Stock.P, -3);
        Due.is("beside the LINE", x.three(5, Stock.ORIGIN, Stock.P, Make.part(x, 1, 1, 1, 1024)), -3);
        Due.by("THREE 5 (all that follows -3 if one is FAR)");
        refusesFar(5);
        refuses(5, Stock.ORIGIN, Stock.P, Stock.EAST, -3);
        refuses(5, Stock.ORIGIN, Stock.EAST, Stock.P, -3);
        refuses(5, Stock.EAST, Stock.ORIGIN, Stock.P, -3);
    }

    private static void moved() {
        Due.by("THREE 6 c moved as a to b");
        PlainGeometry x = Stock.made();
        isPoint(x, 6, Stock.P, Stock.Q, Stock.Q, 0, 2, 1);
        isPoint(x, 6, Stock.Q, Stock.P, Stock.Q, 4, 0, 1);
        isPoint(x, 6, Stock.P, Stock.P, Stock.Q, 2, 1, 1);
        isPoint(x, 6, Make.part(x, 1, 2, 0, 1), Make.part(x, 0, 1, 1, 3), Make.part(x, 1, 5, 1, 7), -63, 100, 210);
        isPoint(x, 6, Stock.ORIGIN, Stock.P, Make.point(x, SMALL - 4, 0), SMALL, 0, 1);
        Due.is("not SMALL", x.three(6, Stock.ORIGIN, Stock.P, Make.point(x, SMALL - 3, 0)), -4);
        refusesFar(6);
    }

    private static void turned() {
        Due.by("THREE 7 c turned by a quarter to the left around a (b is any THING)");
        for (int b = 0; b < Stock.THINGS; b++) {
            PlainGeometry x = Stock.made();
            isPoint(x, 7, Stock.P, b, Stock.Q, 3, -2, 1);
        }
        PlainGeometry x = Stock.made();
        isPoint(x, 7, Stock.Q, Stock.P, Stock.P, 3, 3, 1);
        isPoint(x, 7, Stock.Q, Stock.P, Stock.Q, 2, 1, 1);
        isPoint(x, 7, Stock.ORIGIN, Stock.P, Make.point(x, 5, -SMALL), SMALL, 5, 1);
        Due.is("not SMALL", x.three(7, Make.point(x, 1, 0), Stock.P, Make.point(x, 5, -SMALL)), -4);
        for (int none : Stock.UNKNOWN) {
            refuses(7, Stock.P, none, Stock.Q, -1);
        }
        refuses(7, Stock.P, Stock.THINGS, Stock.Q, -1);
        Due.by("THREE 7 (all that follows -3 if one is FAR)");
        refuses(7, Stock.EAST, Stock.P, Stock.Q, -3);
        refuses(7, Stock.P, Stock.Q, Stock.EAST, -3);
        refuses(7, Stock.EAST, Stock.Q, Stock.NORTH, -3);
        refuses(7, Stock.EAST, Stock.AXIS, Stock.EAST, -3);
    }

    private static void stretched() {
        Due.by("THREE 8 c stretched from a by NUMBER b");
        PlainGeometry x = Stock.made();
        isPoint(x, 8, Stock.P, Stock.TWO, Stock.Q, 0, 2, 1);
        isPoint(x, 8, Stock.P, Stock.ONE, Stock.Q, 2, 1, 1);
        isPoint(x, 8, Stock.P, Stock.ZERO, Stock.Q, 4, 0, 1);
        isPoint(x, 8, Stock.P, x.fraction(-1, 3), Stock.Q, 14, -1, 3);
        isPoint(x, 8, Stock.P, Stock.BIG, Stock.P, 4, 0, 1);
        int unit = Make.point(x, 1, 0);
        isPoint(x, 8, Stock.ORIGIN, x.fraction(SMALL, 1), unit, SMALL, 0, 1);
        Due.is("not SMALL", x.three(8, Stock.ORIGIN, x.fraction(SMALL + 1, 1), unit), -4);
        isPoint(x, 8, Stock.ORIGIN, x.fraction(1, SMALL), unit, 1, 0, SMALL);
        Due.is("W not SMALL", x.three(8, Stock.ORIGIN, x.fraction(1, SMALL + 1), unit), -4);
        refuses(8, Stock.ORIGIN, Stock.BIG, Stock.P, -4);
        Due.by("THREE 8 (all that follows -3 if one is FAR)");
        refuses(8, Stock.EAST, Stock.TWO, Stock.Q, -3);
        refuses(8, Stock.P, Stock.TWO, Stock.EAST, -3);
        refuses(8, Stock.EAST, Stock.BIG, Stock.EAST, -3);
        refuses(8, Stock.P, Stock.ZERO, Stock.NORTH, -3);
    }

    private static int oneOf(char sort) {
        return sort == 'n' ? Stock.TWO : sort == 'l' ? Stock.AXIS : sort == 'c' ? Stock.RING : Stock.P;
    }

    private static void sortsOfThree() {
        Due.by("-1 for an unknown NUMBER, THING (or one of another sort than told), kind: THREE");
        for (int kind = 0; kind < 9; kind++) {
            char sort = THREE_B.charAt(kind);
            int b = oneOf(sort);
            for (int none : Stock.UNKNOWN) {
                refuses(kind, none, b, Stock.Q, -1);
                refuses(kind, Stock.P, none, Stock.Q, -1);
                refuses(kind, Stock.P, b, none, -1);
            }
            refuses(kind, Stock.THINGS, b, Stock.Q, -1);
            refuses(kind, Stock.P, sort == 'n' ? Stock.NUMBERS : Stock.THINGS, Stock.Q, -1);
            refuses(kind, Stock.P, b, Stock.THINGS, -1);
            for (int other : new int[] {Stock.AXIS, Stock.RING}) {
                refuses(kind, other, b, Stock.Q, -1);
                refuses(kind, Stock.P, b, other, -1);
                if (sort == 'p') {
                    refuses(kind, Stock.P, other, Stock.Q, -1);
                }
            }
        }
        for (int kind : new int[] {-1, -2, 9, 10, Make.TINY, Make.HUGE}) {
            refuses(kind, Stock.ORIGIN, Stock.P, Stock.Q, -1);
        }
    }

    // ---- measure

    private static void refusesToMeasure(int kind, int a, int b, int c, long due) {
        Stock.refuses("measure(" + kind + ", " + a + ", " + b + ", " + c + ")", x -> x.measure(kind, a, b, c), due);
    }

    private static void isNumber(PlainGeometry x, int kind, int a, int b, int c, long up, long down) {
        String told = "measure(" + kind + ", " + a + ", " + b + ", " + c + ")";
        int many = x.count(0);
        int n = x.measure(kind, a, b, c);
        Due.is(told, n, many);
        Make.isNumber(told, x, n, up, down);
    }

    private static void xAndY() {
        Due.by("10 0, 1: x, y of NEAR POINT a (-3 FAR)");
        PlainGeometry x = Stock.made();
        int p = Make.part(x, -3, 2, 5, 7);
        isNumber(x, 0, p, p, p, -3, 2);
        isNumber(x, 1, p, p, p, 5, 7);
        isNumber(x, 0, Stock.ORIGIN, p, p, 0, 1);
        isNumber(x, 1, Stock.ORIGIN, p, p, 0, 1);
        int edge = Make.point(x, SMALL, -SMALL);
        isNumber(x, 0, edge, p, p, SMALL, 1);
        isNumber(x, 1, edge, p, p, -SMALL, 1);
        for (int far : new int[] {Stock.EAST, Stock.NORTH, Stock.ALONG}) {
            refusesToMeasure(0, far, Stock.P, Stock.P, -3);
            refusesToMeasure(1, far, Stock.P, Stock.P, -3);
        }
    }

    private static void squareOfWay() {
        Due.by("10 2 from POINT a to b, squared (-3 one is FAR)");
        PlainGeometry x = Stock.made();
        int p = Stock.P;
        isNumber(x, 2, p, Stock.Q, p, 5, 1);
        isNumber(x, 2, Stock.ORIGIN, Stock.ORIGIN_AGAIN, p, 0, 1);
        isNumber(x, 2, p, p, p, 0, 1);
        int root = Make.point(x, ROOT, 0);
        isNumber(x, 2, Stock.ORIGIN, root, p, 1L << 30, 1);
        Due.is("n not SMALL", x.measure(2, Stock.ORIGIN, Make.point(x, ROOT, 1), p), -4);
        isNumber(x, 2, Stock.ORIGIN, Make.part(x, 0, 1, 1, ROOT), p, 1, 1L << 30);
        Due.is("d not SMALL", x.measure(2, Stock.ORIGIN, Make.part(x, 0, 1, 1, ROOT + 1), p), -4);
        // 2^64 + 1 over 2^24: its low bits alone would be SMALL
        Due.is("n beyond a long", x.measure(2, Make.point(x, SMALL, 0), Make.part(x, 0, 1, 1, 4096), p), -4);
        // 1 over a square of 79 bits: its low 64 bits alone, 360846217, would be SMALL
        int left = Make.part(x, 430798, 818385, 0, 1);
        Due.is("d beyond a long", x.measure(2, left, Make.part(x, 314233, 596947, 0, 1), p), -4);
        // 1 over a square of 80 bits
        Due.is("d beyond a long", x.measure(2, Make.part(x, 1, SMALL, 0, 1), Make.part(x, 1, SMALL - 1, 0, 1), p), -4);
        refusesToMeasure(2, p, Stock.EAST, p, -3);
        refusesToMeasure(2, Stock.EAST, p, p, -3);
        refusesToMeasure(2, Stock.EAST, Stock.NORTH, p, -3);
        refusesToMeasure(2, Stock.EAST, Stock.EAST, p, -3);
    }

    private static void power() {
        Due.by("10 3 the power of NEAR POINT a by CIRCLE b (K = 1 in its equation; -3 FAR)");
        PlainGeometry x = Stock.made();
        int p = Stock.P;
        isNumber(x, 3, p, Stock.RING, p, 0, 1);
        isNumber(x, 3, Stock.ORIGIN, Stock.RING, p, -16, 1);
        isNumber(x, 3, p, Stock.INNER_RING, p, 11, 1);
        int narrow = x.step(13, Stock.ORIGIN, Make.part(x, 1, 2, 0, 1));
        isNumber(x, 3, Make.point(x, 1, 0), narrow, p, 1, 2);
        isNumber(x, 3, Make.part(x, 1, 3, 0, 1), narrow, p, -1, 18);
        isNumber(x, 3, Make.point(x, ROOT, 4), Stock.RING, p, 1L << 30, 1);
        Due.is("not SMALL", x.measure(3, Make.point(x, ROOT, 5), Stock.RING, p), -4);
        refusesToMeasure(3, Stock.EAST, Stock.RING, p, -3);
        refusesToMeasure(3, Stock.ALONG, Stock.RING, p, -3);
    }

    private static void squareOfRadius() {
        Due.by("10 4 the RADIUS squared of CIRCLE a");
        PlainGeometry x = Stock.made();
        int p = Stock.P;
        isNumber(x, 4, Stock.RING, p, p, 16, 1);
        isNumber(x, 4, Stock.INNER_RING, p, p, 5, 1);
        isNumber(x, 4, x.step(12, Make.point(x, ROOT, 0), Stock.ORIGIN), p, p, 1L << 30, 1);
        Due.is("n not SMALL", x.measure(4, x.step(12, Make.point(x, ROOT + 1, 0), Stock.ORIGIN), p, p), -4);
        isNumber(x, 4, x.step(13, Make.part(x, 1, ROOT / 2, 0, 1), Stock.ORIGIN), p, p, 1, 1L << 30);
        Due.is("d not SMALL", x.measure(4, x.step(13, Make.part(x, 1, ROOT / 2 + 1, 0, 1), Stock.ORIGIN), p, p), -4);
    }

    private static void area() {
        Due.by("10 5 twice the area of POINTS a, b, c, to the left above 0 (-3 one is FAR)");
        PlainGeometry x = Stock.made();
        isNumber(x, 5, Stock.ORIGIN, Stock.P, Stock.Q, 4, 1);
        isNumber(x, 5, Stock.P, Stock.ORIGIN, Stock.Q, -4, 1);
        isNumber(x, 5, Stock.ORIGIN, Stock.P, Stock.ORIGIN_AGAIN, 0, 1);
        isNumber(x, 5, Stock.P, Stock.P, Stock.P, 0, 1);
        isNumber(x, 5, Stock.ORIGIN, Stock.P, Make.part(x, 1, 5, 0, 1), 0, 1);
        isNumber(x, 5, Make.part(x, 1, 2, 0, 1), Stock.P, Make.part(x, 0, 1, 1, 3), 7, 6);
        int right = Make.point(x, ROOT, 0);
        int up = Make.point(x, 0, ROOT);
        isNumber(x, 5, Stock.ORIGIN, right, up, 1L << 30, 1);
        isNumber(x, 5, Stock.ORIGIN, up, right, -(1L << 30), 1);
        int higher = Make.point(x, 0, ROOT + 1);
        Due.is("not SMALL to the left", x.measure(5, Stock.ORIGIN, right, higher), -4);
        Due.is("not SMALL to the right", x.measure(5, Stock.ORIGIN, higher, right), -4);
        refusesToMeasure(5, Stock.EAST, Stock.P, Stock.Q, -3);
        refusesToMeasure(5, Stock.P, Stock.EAST, Stock.Q, -3);
        refusesToMeasure(5, Stock.P, Stock.Q, Stock.EAST, -3);
        refusesToMeasure(5, Stock.EAST, Stock.NORTH, Stock.ALONG, -3);
        refusesToMeasure(5, Stock.EAST, Stock.EAST, Stock.P, -3);
    }

    private static void squareToLine() {
        Due.by("10 6 from POINT a to LINE b, squared (-3 a is FAR, b has all FAR ones)");
        PlainGeometry x = Stock.made();
        int p = Stock.P;
        isNumber(x, 6, Stock.Q, Stock.AXIS, p, 1, 1);
        isNumber(x, 6, Stock.P, Stock.AXIS, p, 0, 1);
        isNumber(x, 6, Stock.P, Stock.SLOPE, p, 16, 5);
        isNumber(x, 6, Make.point(x, 5, -ROOT), Stock.AXIS, p, 1L << 30, 1);
        Due.is("n not SMALL", x.measure(6, Make.point(x, 5, -ROOT - 1), Stock.AXIS, p), -4);
        isNumber(x, 6, Make.part(x, 5, 1, 1, ROOT), Stock.AXIS, p, 1, 1L << 30);
        Due.is("d not SMALL", x.measure(6, Make.part(x, 5, 1, 1, ROOT + 1), Stock.AXIS, p), -4);
        refusesToMeasure(6, Stock.EAST, Stock.AXIS, p, -3);
        refusesToMeasure(6, Stock.NORTH, Stock.AXIS, p, -3);
        refusesToMeasure(6, Stock.P, Stock.ALL_FAR, p, -3);
        refusesToMeasure(6, Stock.EAST, Stock.ALL_FAR, p, -3);
    }

    /** What a kind answers is the same for any THING that it does not name. */
    private static void anyThing(int kind, int[] told, int place, long due) {
        for (int any = 0; any < Stock.THINGS; any++) {
            int[] asked = told.clone();
            asked[place] = any;
            PlainGeometry x = Stock.made();
            Due.is("measure " + kind + " with THING " + any, x.measure(kind, asked[0], asked[1], asked[2]), Stock.NUMBERS);
            Due.is("its n", x.numberOf(Stock.NUMBERS, 0), due);
        }
    }

    private static void sortsOfMeasure() {
        Due.by("10 (THINGS that are not named are any THING.)");
        long[] due = {4, 0, 0, 0, 16, 0, 0};
        for (int kind = 0; kind < 7; kind++) {
            String sorts = "" + MEASURE_A.charAt(kind) + MEASURE_B.charAt(kind) + MEASURE_C.charAt(kind);
            int[] told = {oneOf(sorts.charAt(0)), oneOf(sorts.charAt(1)), oneOf(sorts.charAt(2))};
            for (int place = 0; place < 3; place++) {
                if (sorts.charAt(place) == 't') {
                    anyThing(kind, told, place, due[kind]);
                }
            }
        }
        Due.by("-1 for an unknown THING (or one of another sort than told), kind: measure");
        for (int kind = 0; kind < 7; kind++) {
            String sorts = "" + MEASURE_A.charAt(kind) + MEASURE_B.charAt(kind) + MEASURE_C.charAt(kind);
            for (int place = 0; place < 3; place++) {
                int[] told = {oneOf(sorts.charAt(0)), oneOf(sorts.charAt(1)), oneOf(sorts.charAt(2))};
                for (int none : Stock.UNKNOWN) {
                    told[place] = none;
                    refusesToMeasure(kind, told[0], told[1], told[2], -1);
                }
                told[place] = Stock.THINGS;
                refusesToMeasure(kind, told[0], told[1], told[2], -1);
                for (char other : "plc".toCharArray()) {
                    if (sorts.charAt(place) != 't' && sorts.charAt(place) != other) {
                        told[place] = oneOf(other);
                        refusesToMeasure(kind, told[0], told[1], told[2], -1);
                    }
                }
            }
        }
        for (int kind : new int[] {-1, -2, 7, 8, Make.TINY, Make.HUGE}) {
            refusesToMeasure(kind, Stock.P, Stock.P, Stock.P, -1);
            refusesToMeasure(kind, Stock.P, Stock.AXIS, Stock.P, -1);
        }
    }
}
