/** The edges that the document names of THINGS and of STEP: promises 7 and 9. */
final class EdgeStepsTest {
    private static final int SMALL = 1 << 20;

    public static void main(String[] args) {
        room();
        lowestPoints();
        lowestLines();
        lowestCircles();
        smallPoints();
        smallLines();
        smallCircles();
        smallFar();
        step0();
        step1();
        step2();
        step3();
        step4And7();
        step5();
        step6();
        step8();
        step9();
        step10();
        step11();
        step12And13();
        step14And15();
        step16And17();
        step18And19();
        sortsOfSteps();
        thing();
        Due.end();
    }

    /** 100 POINTS of 10 NUMBERS, row by row. */
    private static long fill(PlainGeometry x) {
        for (int i = 0; i < 10; i++) {
            Make.whole(x, i);
        }
        for (int i = 0; i < 100; i++) {
            x.step(0, i % 10, i / 10);
        }
        return 0;
    }

    private static void room() {
        Due.by("2 THINGS have numbers from 0, 100 at most");
        PlainGeometry x = new PlainGeometry();
        int great = Make.whole(x, SMALL + 1);
        for (int i = 0; i < 100; i++) {
            Due.is("step", x.step(0, Make.whole(x, i), 1), i);
            if (i == 40) {
                Due.is("one not made takes no number", x.step(1, 3, 3), -3);
                Due.is("nor one not SMALL", x.step(0, great, 1), -4);
            }
        }
        Due.is("100", x.count(1), 100);
        Due.is("one more", x.step(0, 1, 1), -4);
        Due.is("still 100", x.count(1), 100);
        Due.is("first", x.thing(0, 0), 0);
        Due.is("last", x.thing(99, 1), 99);
        Due.is("none behind", x.thing(100, 0), -1);
        Refused.is("one more POINT", EdgeStepsTest::fill, y -> y.step(0, 1, 1), -4);
        Refused.is("one more LINE", EdgeStepsTest::fill, y -> y.step(1, 1, 2), -4);
        Refused.is("one more CIRCLE", EdgeStepsTest::fill, y -> y.step(12, 1, 2), -4);
        Refused.is("one more by THREE", EdgeStepsTest::fill, y -> y.three(1, 1, 2, 3), -4);
        Refused.is("-3 before -4", EdgeStepsTest::fill, y -> y.step(1, 2, 2), -3);
        Refused.is("-3 before -4 by THREE", EdgeStepsTest::fill, y -> y.three(0, 1, 2, 3), -3);
        Refused.is("-1 before -4", EdgeStepsTest::fill, y -> y.step(1, 2, 100), -1);
    }

    private static void lowestPoints() {
        Due.by("A POINT is X : Y : W, whole numbers in lowest terms");
        PlainGeometry x = new PlainGeometry();
        Make.isPoint("1/2, 1/2", x, Make.part(x, 1, 2, 1, 2), 1, 1, 2);
        Make.isPoint("1/2, 1/3", x, Make.part(x, 1, 2, 1, 3), 3, 2, 6);
        Make.isPoint("1/6, 1/4", x, Make.part(x, 1, 6, 1, 4), 2, 3, 12);
        Make.isPoint("0, 0", x, Make.point(x, 0, 0), 0, 0, 1);
        Make.isPoint("0, 5/7", x, Make.part(x, 0, 1, 5, 7), 0, 5, 7);
        Make.isPoint("2, 4", x, Make.point(x, 2, 4), 2, 4, 1);
        Due.by("the last of them that is not 0 above 0: W");
        Make.isPoint("-1, -2", x, Make.point(x, -1, -2), -1, -2, 1);
        Make.isPoint("-1/2, 0", x, Make.part(x, -1, 2, 0, 1), -1, 0, 2);
        Due.by("with W = 0 FAR: the direction X, Y (and the other way): the last of them that is not 0 above 0");
        Make.isPoint("1, 2", x, Make.far(x, 1, 2), 1, 2, 0);
        Make.isPoint("-1, -2", x, Make.far(x, -1, -2), 1, 2, 0);
        Make.isPoint("3, -6", x, Make.far(x, 3, -6), -1, 2, 0);
        Make.isPoint("0, -4", x, Make.far(x, 0, -4), 0, 1, 0);
        Make.isPoint("-4, 0", x, Make.far(x, -4, 0), 1, 0, 0);
        Make.isPoint("5, 0", x, Make.far(x, 5, 0), 1, 0, 0);
    }

    private static void lowestLines() {
        Due.by("A LINE is A : B : C, likewise");
        PlainGeometry x = new PlainGeometry();
        Make.isLine("2 x + 4 y = 6", x, Make.line(x, 1, 1, 3, 0), -1, -2, 3);
        Make.isLine("back", x, Make.line(x, 3, 0, 1, 1), -1, -2, 3);
        Make.isLine("x = y", x, Make.line(x, 0, 0, 7, 7), -1, 1, 0);
        Make.isLine("y = 0", x, Make.line(x, 5, 0, -5, 0), 0, 1, 0);
        Make.isLine("x = 0", x, Make.line(x, 0, 5, 0, -5), 1, 0, 0);
        Make.isLine("y = -3", x, Make.line(x, 5, -3, 1, -3), 0, 1, 3);
        Make.isLine("y = 3", x, Make.line(x, 5, 3, 1, 3), 0, -1, 3);
        Make.isLine("x = -2", x, Make.line(x, -2, 0, -2, 1), 1, 0, 2);
        Due.by("0 : 0 : 1 has all that are FAR");
        int all = Make.allFar(x);
        Make.isLine("all far", x, all, 0, 0, 1);
        Due.is("has 1 : 2 : 0", x.holds(2, Make.far(x, 1, 2), all, 0, 0), 1);
        Due.is("has 0 : 1 : 0", x.holds(2, Make.far(x, 0, 1), all, 0, 0), 1);
        Due.is("no NEAR one", x.holds(2, Make.point(x, 1, 2), all, 0, 0), 0);
        Due.is("nor 0, 0", x.holds(2, Make.point(x, 0, 0), all, 0, 0), 0);
    }

    private static void lowestCircles() {
        Due.by("A CIRCLE is K : A : B : C in lowest terms, K above 0");
        PlainGeometry x = new PlainGeometry();
        Make.isCircle("around 0, 0", x, Make.around(x, 0, 0, 3, 4), 1, 0, 0, -25);
        Make.isCircle("over", x, Make.over(x, 0, 0, 2, 4), 1, -2, -4, 0);
        int half = Make.part(x, 1, 2, 0, 1);
        Make.isCircle("around a half", x, x.step(12, half, Make.point(x, 0, 0)), 1, -1, 0, 0);
        Make.isCircle("over a half", x, x.step(13, half, Make.point(x, 0, 0)), 2, -1, 0, 0);
        Make.isCircle("over two halves", x, x.step(13, half, Make.part(x, -1, 2, 0, 1)), 4, 0, 0, -1);
        Make.isCircle("through, to the right", x,
                x.three(0, Make.point(x, 0, 0), Make.point(x, 0, 2), Make.point(x, 2, 0)), 1, -2, -2, 0);
        Make.isCircle("through, to the left", x,
                x.three(0, Make.point(x, 0, 0), Make.point(x, 2, 0), Make.point(x, 0, 2)), 1, -2, -2, 0);
    }

    private static void smallPoints() {
        Due.by("Each of these numbers is at most 2^20 in size: X, Y, W of a POINT");
        PlainGeometry x = new PlainGeometry();
        Make.isPoint("X", x, Make.point(x, SMALL, 0), SMALL, 0, 1);
        Make.isPoint("-X", x, Make.point(x, -SMALL, 0), -SMALL, 0, 1);
        Make.isPoint("Y", x, Make.point(x, 0, SMALL), 0, SMALL, 1);
        Make.isPoint("-Y", x, Make.point(x, 0, -SMALL), 0, -SMALL, 1);
        Make.isPoint("W", x, Make.part(x, 1, SMALL, -1, SMALL), 1, -1, SMALL);
        Make.isPoint("W of two", x, Make.part(x, 1, 1024, 1, 1023), 1023, 1024, 1024 * 1023);
        Due.is("X + 1", Make.point(x, SMALL + 1, 0), -4);
        Due.is("-X - 1", Make.point(x, -SMALL - 1, 0), -4);
        Due.is("Y + 1", Make.point(x, 0, SMALL + 1), -4);
        Due.is("-Y - 1", Make.point(x, 0, -SMALL - 1), -4);
        Due.is("W + 1", Make.part(x, 1, SMALL + 1, 0, 1), -4);
        Due.is("W of two", Make.part(x, 1, 1024, 1, 1025), -4);
        Due.is("X by W", Make.part(x, (1 << 19) + 1, 1, 1, 2), -4);
        Make.isPoint("X by W", x, Make.part(x, 1 << 19, 1, 1, 2), SMALL, 1, 2);
        Due.is("six more", x.count(1), 7);
    }

    private static void smallLines() {
        Due.by("Each of these numbers is at most 2^20 in size: A, B, C of a LINE");
        PlainGeometry x = new PlainGeometry();
        int half = SMALL / 2;
        Make.isLine("-A", x, Make.line(x, 0, half, 1, -half), -SMALL, -1, half);
        Make.isLine("A", x, Make.line(x, 0, half, -1, -half), SMALL, -1, half);
        Make.isLine("-B", x, Make.line(x, half, 0, -half, 1), -1, -SMALL, half);
        Make.isLine("B", x, Make.line(x, half, 0, -half, -1), -1, SMALL, half);
        Make.isLine("C", x, Make.line(x, 1024, 1, 0, 1024), -1023, -1024, SMALL);
        Due.is("-A - 1", Make.line(x, 0, half + 1, 1, -half), -4);
        Due.is("A + 1", Make.line(x, 0, half + 1, -1, -half), -4);
        Due.is("-B - 1", Make.line(x, half + 1, 0, -half, 1), -4);
        Due.is("B + 1", Make.line(x, half + 1, 0, -half, -1), -4);
        Due.is("C + 1", Make.line(x, 1024, 1, -1, 1024), -4);
        Refused.is("C + 1", y -> Make.point(y, 1024, 1) + Make.point(y, -1, 1024), y -> y.step(1, 0, 1), -4);
    }

    private static void smallCircles() {
        Due.by("Each of these numbers is at most 2^20 in size: K, A, B, C of a CIRCLE");
        PlainGeometry x = new PlainGeometry();
        int one = Make.point(x, 0, 1);
        int narrow = x.step(13, Make.part(x, 1, SMALL, 0, 1), one);
        Make.isCircle("K and -B", x, narrow, SMALL, -1, -SMALL, 0);
        int wide = x.step(13, Make.part(x, 1, 1024, 0, 1), Make.part(x, 0, 1, 1, 1023));
        Make.isCircle("K of two", x, wide, 1024 * 1023, -1023, -1024, 0);
        Due.is("K beyond", x.step(13, Make.part(x, 1, 1024, 0, 1), Make.part(x, 0, 1, 1, 1025)), -4);
        Make.isCircle("-A", x, Make.over(x, SMALL - 1, 0, 1, 0), 1, -SMALL, 0, SMALL - 1);
        Due.is("-A - 1", Make.over(x, SMALL, 0, 1, 0), -4);
        Make.isCircle("A", x, Make.over(x, 1 - SMALL, 0, -1, 0), 1, SMALL, 0, SMALL - 1);
        Due.is("A + 1", Make.over(x, -SMALL, 0, -1, 0), -4);
        Make.isCircle("-B", x, Make.over(x, 0, SMALL - 1, 0, 1), 1, 0, -SMALL, SMALL - 1);
        Due.is("-B - 1", Make.over(x, 0, SMALL, 0, 1), -4);
        Make.isCircle("B", x, Make.over(x, 0, 1 - SMALL, 0, -1), 1, 0, SMALL, SMALL - 1);
        Due.is("B + 1", Make.over(x, 0, -SMALL, 0, -1), -4);
        Make.isCircle("C", x, Make.over(x, 1025, 1, 1023, 1), 1, -2048, -2, SMALL);
        Due.is("C + 1", Make.over(x, 1025, 1, 1023, 2), -4);
        Make.isCircle("-C", x, Make.over(x, 1025, 1, -1023, -1), 1, -2, 0, -SMALL);
        Due.is("-C - 1", Make.over(x, 1025, 1, -1023, -2), -4);
    }

    private static void smallFar() {
        Due.by("Each of these numbers is at most 2^20 in size: X, Y of a FAR POINT");
        PlainGeometry x = new PlainGeometry();
        int half = SMALL / 2;
        Make.isPoint("-X", x, farOfMiddle(x, half, 0, -half, 1), -SMALL, 1, 0);
        Due.is("-X - 1", farOfMiddle(x, half + 1, 0, -half, 1), -4);
        Make.isPoint("X", x, farOfMiddle(x, half, 1, -half, 0), SMALL, 1, 0);
        Due.is("X + 1", farOfMiddle(x, half + 1, 1, -half, 0), -4);
        Make.isPoint("Y", x, farOfMiddle(x, 0, half, 1, -half), -1, SMALL, 0);
        Due.is("Y + 1", farOfMiddle(x, 0, half + 1, 1, -half), -4);
    }

    /** The fourth harmonic of the middle: the FAR POINT from one to the other. */
    private static int farOfMiddle(PlainGeometry x, long ax, long ay, long bx, long by) {
        int a = Make.point(x, ax, ay);
        int b = Make.point(x, bx, by);
        return x.three(5, a, b, x.step(3, a, b));
    }

    // ---- STEP, kind by kind

    private static void refuses(int kind, int a, int b, long due) {
        Stock.refuses("step(" + kind + ", " + a + ", " + b + ")", x -> x.step(kind, a, b), due);
    }

    private static int made(PlainGeometry x, int kind, int a, int b) {
        int many = x.count(1);
        int t = x.step(kind, a, b);
        Due.is("step(" + kind + ", " + a + ", " + b + ")", t, many);
        return t;
    }

    private static void givesPoint(int kind, int a, int b, long px, long py, long pw) {
        PlainGeometry x = Stock.made();
        Make.isPoint("step(" + kind + ", " + a + ", " + b + ")", x, made(x, kind, a, b), px, py, pw);
    }

    private static void givesLine(int kind, int a, int b, long la, long lb, long lc) {
        PlainGeometry x = Stock.made();
        Make.isLine("step(" + kind + ", " + a + ", " + b + ")", x, made(x, kind, a, b), la, lb, lc);
    }

    private static void step0() {
        Due.by("the stock of these tests is as told");
        Stock.look();
        Due.by("STEP 0 n n: the POINT with these as x, y");
        givesPoint(0, Stock.ZERO, Stock.ZERO, 0, 0, 1);
        givesPoint(0, Stock.FOUR, Stock.TWO, 4, 2, 1);
        refuses(0, Stock.BIG, Stock.ZERO, -4);
        refuses(0, Stock.ZERO, Stock.BIG, -4);
    }

    private static void step1() {
        Due.by("STEP 1 p p: the LINE with both (-3 the same)");
        givesLine(1, Stock.P, Stock.Q, -1, -2, 4);
        givesLine(1, Stock.P, Stock.EAST, 0, 1, 0);
        givesLine(1, Stock.NORTH, Stock.P, -1, 0, 4);
        givesLine(1, Stock.NORTH, Stock.EAST, 0, 0, 1);
        refuses(1, Stock.P, Stock.P, -3);
        refuses(1, Stock.ORIGIN, Stock.ORIGIN_AGAIN, -3);
        refuses(1, Stock.EAST, Stock.EAST, -3);
        PlainGeometry x = Stock.made();
        Due.is("two FAR ones the same", x.step(1, Stock.ALONG, Make.far(x, -4, -2)), -3);
    }

    private static void step2() {
        Due.by("STEP 2 l l: the POINT that both have (-3 the same)");
        givesPoint(2, Stock.AXIS, Stock.SLOPE, 0, 0, 1);
        givesPoint(2, Stock.ALL_FAR, Stock.SLOPE, 2, 1, 0);
        refuses(2, Stock.AXIS, Stock.AXIS, -3);
        refuses(2, Stock.AXIS, Stock.AXIS_AGAIN, -3);
        refuses(2, Stock.ALL_FAR, Stock.ALL_FAR, -3);
        PlainGeometry x = Stock.made();
        int parallel = x.step(5, Stock.Q, Stock.AXIS);
        Make.isPoint("parallel ones", x, x.step(2, Stock.AXIS, parallel), 1, 0, 0);
    }

    private static void step3() {
        Due.by("STEP 3 p p: their middle (-3 one is FAR)");
        givesPoint(3, Stock.P, Stock.Q, 6, 1, 2);
        givesPoint(3, Stock.P, Stock.P, 4, 0, 1);
        givesPoint(3, Stock.ORIGIN, Stock.ORIGIN_AGAIN, 0, 0, 1);
        refuses(3, Stock.P, Stock.EAST, -3);
        refuses(3, Stock.EAST, Stock.P, -3);
        refuses(3, Stock.EAST, Stock.NORTH, -3);
        refuses(3, Stock.EAST, Stock.EAST, -3);
    }

    private static void step4And7() {
        Due.by("STEP 4 p l: the foot of p on l (-3 p is FAR, or l has all FAR ones)");
        givesPoint(4, Stock.Q, Stock.AXIS, 2, 0, 1);
        givesPoint(4, Stock.P, Stock.SLOPE, 16, 8, 5);
        givesPoint(4, Stock.Q, Stock.SLOPE, 2, 1, 1);
        refuses(4, Stock.EAST, Stock.AXIS, -3);
        refuses(4, Stock.NORTH, Stock.AXIS, -3);
        refuses(4, Stock.ALONG, Stock.AXIS, -3);
        refuses(4, Stock.P, Stock.ALL_FAR, -3);
        refuses(4, Stock.EAST, Stock.ALL_FAR, -3);
        Due.by("STEP 7 p l: p mirrored in l (-3 as 4)");
        givesPoint(7, Stock.Q, Stock.AXIS, 2, -1, 1);
        givesPoint(7, Stock.P, Stock.SLOPE, 12, 16, 5);
        givesPoint(7, Stock.Q, Stock.SLOPE, 2, 1, 1);
        refuses(7, Stock.EAST, Stock.AXIS, -3);
        refuses(7, Stock.NORTH, Stock.AXIS, -3);
        refuses(7, Stock.ALONG, Stock.AXIS, -3);
        refuses(7, Stock.P, Stock.ALL_FAR, -3);
        refuses(7, Stock.EAST, Stock.ALL_FAR, -3);
    }

    private static void step5() {
        Due.by("STEP 5 p l: the LINE with p and the FAR POINT of l (-3 that is p, or l has all FAR ones)");
        givesLine(5, Stock.Q, Stock.AXIS, 0, -1, 1);
        givesLine(5, Stock.P, Stock.SLOPE, -1, 2, 4);
        givesLine(5, Stock.Q, Stock.SLOPE, -1, 2, 0);
        givesLine(5, Stock.NORTH, Stock.AXIS, 0, 0, 1);
        givesLine(5, Stock.EAST, Stock.SLOPE, 0, 0, 1);
        refuses(5, Stock.EAST, Stock.AXIS, -3);
        refuses(5, Stock.ALONG, Stock.SLOPE, -3);
        refuses(5, Stock.P, Stock.ALL_FAR, -3);
        refuses(5, Stock.EAST, Stock.ALL_FAR, -3);
    }

    private static void step6() {
        Due.by("STEP 6 p l: with p and the FAR POINT square to l (-3 that is p, or l has all FAR ones)");
        givesLine(6, Stock.Q, Stock.AXIS, -1, 0, 2);
        givesLine(6, Stock.P, Stock.SLOPE, -2, -1, 8);
        givesLine(6, Stock.Q, Stock.SLOPE, -2, -1, 5);
        givesLine(6, Stock.EAST, Stock.AXIS, 0, 0, 1);
        givesLine(6, Stock.ALONG, Stock.SLOPE, 0, 0, 1);
        refuses(6, Stock.NORTH, Stock.AXIS, -3);
        refuses(6, Stock.ACROSS, Stock.SLOPE, -3);
        refuses(6, Stock.P, Stock.ALL_FAR, -3);
        refuses(6, Stock.NORTH, Stock.ALL_FAR, -3);
    }

    private static void step8() {
        Due.by("STEP 8 p c: the inverse of p (-3 p is FAR, or the middle)");
        givesPoint(8, Stock.Q, Stock.RING, 32, 16, 5);
        givesPoint(8, Stock.P, Stock.RING, 4, 0, 1);
        givesPoint(8, Stock.P, Stock.INNER_RING, 5, 0, 4);
        refuses(8, Stock.EAST, Stock.RING, -3);
        refuses(8, Stock.ALONG, Stock.INNER_RING, -3);
        refuses(8, Stock.ORIGIN, Stock.RING, -3);
        refuses(8, Stock.ORIGIN_AGAIN, Stock.RING, -3);
        PlainGeometry x = Stock.made();
        int close = Make.part(x, 1, SMALL / 16, 0, 1);
        Make.isPoint("close to the middle", x, x.step(8, close, Stock.RING), SMALL, 0, 1);
        Due.is("closer", x.step(8, Make.part(x, 1, SMALL / 16 + 1, 0, 1), Stock.RING), -4);
        int c = Make.around(x, 2, 1, 2, 4);
        Due.is("the middle of another", x.step(8, Stock.Q, c), -3);
        Make.isPoint("right of it", x, x.step(8, Make.point(x, 5, 1), c), 5, 1, 1);
    }

    private static void step9() {
        Due.by("STEP 9 p c: its polar LINE (of a FAR p: 2 K (x X + y Y) + A X + B Y; never -3)");
        givesLine(9, Stock.Q, Stock.RING, -2, -1, 16);
        givesLine(9, Stock.P, Stock.RING, -1, 0, 4);
        givesLine(9, Stock.ORIGIN, Stock.RING, 0, 0, 1);
        givesLine(9, Stock.EAST, Stock.RING, 1, 0, 0);
        givesLine(9, Stock.ALONG, Stock.RING, 2, 1, 0);
        PlainGeometry x = Stock.made();
        int c = Make.over(x, 0, 0, 3, 1);
        Make.isCircle("odd A and B", x, c, 1, -3, -1, 0);
        Make.isLine("of the place 0, 0", x, x.step(9, Stock.ORIGIN, c), 3, 1, 0);
        Make.isLine("of 1 : 0 : 0", x, x.step(9, Stock.EAST, c), -2, 0, 3);
        Make.isLine("of 2 : 1 : 0", x, x.step(9, Stock.ALONG, c), -4, -2, 7);
        int middle = Make.part(x, 3, 2, 1, 2);
        Make.isLine("of the middle", x, x.step(9, middle, c), 0, 0, 1);
    }

    private static void step10() {
        Due.by("STEP 10 l c: the POINT whose polar it is");
        givesPoint(10, Stock.ALL_FAR, Stock.RING, 0, 0, 1);
        givesPoint(10, Stock.AXIS, Stock.RING, 0, 1, 0);
        givesPoint(10, Stock.SLOPE, Stock.INNER_RING, -1, 2, 0);
        PlainGeometry x = Stock.made();
        int c = Make.over(x, 0, 0, 3, 1);
        int[] points = {Stock.ORIGIN, Stock.P, Stock.Q, Stock.EAST, Stock.NORTH, Stock.ALONG, Stock.ACROSS, Make.part(x, 3, 2, 1, 2)};
        for (int p : points) {
            int pole = x.step(10, x.step(9, p, c), c);
            Make.isPoint("pole of the polar", x, pole, x.thing(p, 1), x.thing(p, 2), x.thing(p, 3));
        }
    }

    private static void step11() {
        Due.by("STEP 11 c c: the LINE of equal powers (-3 the same middle)");
        refuses(11, Stock.RING, Stock.RING, -3);
        refuses(11, Stock.RING, Stock.INNER_RING, -3);
        PlainGeometry x = Stock.made();
        int c = Make.around(x, 1, 0, 2, 0);
        Make.isLine("one beside the middle", x, x.step(11, Stock.RING, c), -1, 0, 8);
        Make.isLine("back", x, x.step(11, c, Stock.RING), -1, 0, 8);
        int half = x.step(12, Make.part(x, 1, 2, 1, 2), Stock.ORIGIN);
        Due.is("the same middle with another K", x.step(11, half, x.step(12, Make.part(x, 1, 2, 1, 2), Make.part(x, 1, 2, 1, 3))), -3);
        Make.isLine("of 1 - x - y", x, x.step(11, half, Stock.RING), -1, -1, 16);
    }

    private static void step12And13() {
        Due.by("STEP 12 p p: the CIRCLE around a through b (-3 the same, or one is FAR)");
        refuses(12, Stock.P, Stock.P, -3);
        refuses(12, Stock.ORIGIN, Stock.ORIGIN_AGAIN, -3);
        refuses(12, Stock.P, Stock.EAST, -3);
        refuses(12, Stock.EAST, Stock.P, -3);
        refuses(12, Stock.EAST, Stock.NORTH, -3);
        refuses(12, Stock.EAST, Stock.EAST, -3);
        Due.by("STEP 13 p p: the CIRCLE over both as ends of a diameter (-3 likewise)");
        refuses(13, Stock.P, Stock.P, -3);
        refuses(13, Stock.ORIGIN, Stock.ORIGIN_AGAIN, -3);
        refuses(13, Stock.P, Stock.EAST, -3);
        refuses(13, Stock.EAST, Stock.P, -3);
        refuses(13, Stock.EAST, Stock.NORTH, -3);
        refuses(13, Stock.EAST, Stock.EAST, -3);
        PlainGeometry x = Stock.made();
        Make.isCircle("around", x, x.step(12, Stock.P, Stock.Q), 1, -8, 0, 11);
        Make.isCircle("around the other", x, x.step(12, Stock.Q, Stock.P), 1, -4, -2, 0);
        Make.isCircle("over", x, x.step(13, Stock.P, Stock.Q), 1, -6, -1, 8);
        Due.by("its RADIUS squared is above 0: the least that is SMALL");
        int least = x.step(13, Stock.ORIGIN, Make.part(x, 1, SMALL, 0, 1));
        Make.isCircle("over the least way", x, least, SMALL, -1, 0, 0);
        Due.is("around by the least way", x.step(12, Stock.ORIGIN, Make.part(x, 1, 1024, 0, 1)), x.count(1) - 1);
        Due.is("around by less", x.step(12, Stock.ORIGIN, Make.part(x, 1, 1025, 0, 1)), -4);
    }

    private static int upright(PlainGeometry x, long at) {
        return Make.line(x, at, 0, at, 1);
    }

    private static int level(PlainGeometry x, long at) {
        return Make.line(x, 0, at, 1, at);
    }

    private static void step14And15() {
        Due.by("STEP 14, 15 l c: the first, second POINT that both have, by x, then y");
        PlainGeometry x = new PlainGeometry();
        int c = Make.around(x, 0, 0, 5, 0);
        int fall = Make.line(x, -3, 4, 4, -3);
        Make.isPoint("first by x", x, x.step(14, fall, c), -3, 4, 1);
        Make.isPoint("second by x", x, x.step(15, fall, c), 4, -3, 1);
        Make.isPoint("first of the same x by y", x, x.step(14, upright(x, 4), c), 4, -3, 1);
        Make.isPoint("second of the same x by y", x, x.step(15, upright(x, 4), c), 4, 3, 1);
        Make.isPoint("first of the same y", x, x.step(14, level(x, -3), c), -4, -3, 1);
        Make.isPoint("second of the same y", x, x.step(15, level(x, -3), c), 4, -3, 1);
        Due.by("STEP 14, 15: (touching: both the same");
        Make.isPoint("first", x, x.step(14, upright(x, 5), c), 5, 0, 1);
        Make.isPoint("second", x, x.step(15, upright(x, 5), c), 5, 0, 1);
        int slope = x.step(9, Make.point(x, 3, 4), c);
        Make.isPoint("first of a slope", x, x.step(14, slope, c), 3, 4, 1);
        Make.isPoint("second of a slope", x, x.step(15, slope, c), 3, 4, 1);
        Due.by("STEP 14, 15: -3 none, or they are not fractions)");
        int all = Make.allFar(x);
        for (int kind = 14; kind < 16; kind++) {
            Due.is("beyond", x.step(kind, upright(x, 6), c), -3);
            Due.is("beyond by y", x.step(kind, level(x, -6), c), -3);
            Due.is("all FAR", x.step(kind, all, c), -3);
            Due.is("no fractions", x.step(kind, upright(x, 1), c), -3);
            Due.is("no fractions below", x.step(kind, level(x, -2), c), -3);
        }
        Due.by("A step that would give what is not SMALL answers -4: the one that is asked for");
        int flat = Make.line(x, -5, 0, 995, 1);
        Make.isPoint("first is SMALL", x, x.step(14, flat, c), -5, 0, 1);
        Due.is("second is not", x.step(15, flat, c), -4);
        int steep = Make.line(x, 5, 0, -995, 1);
        Due.is("first is not", x.step(14, steep, c), -4);
        Make.isPoint("second is SMALL", x, x.step(15, steep, c), 5, 0, 1);
    }

    private static void step16And17() {
        Due.by("STEP 16, 17 c c: likewise, by the LINE of equal powers");
        PlainGeometry x = new PlainGeometry();
        int c = Make.around(x, 0, 0, 5, 0);
        int d = Make.around(x, 8, 0, 4, 3);
        Make.isPoint("first", x, x.step(16, c, d), 4, -3, 1);
        Make.isPoint("second", x, x.step(17, c, d), 4, 3, 1);
        Make.isPoint("first, back", x, x.step(16, d, c), 4, -3, 1);
        Make.isPoint("second, back", x, x.step(17, d, c), 4, 3, 1);
        int e = Make.around(x, 1, 1, -3, 4);
        Make.isPoint("first by x", x, x.step(16, c, e), -3, 4, 1);
        Make.isPoint("second by x", x, x.step(17, c, e), 4, -3, 1);
        int touching = Make.around(x, 8, 0, 5, 0);
        int within = Make.around(x, 3, 0, 5, 0);
        int none = Make.around(x, 8, 0, 6, 0);
        int inner = Make.around(x, 1, 0, 2, 0);
        int odd = Make.around(x, 1, 0, 6, 0);
        int same = Make.around(x, 0, 0, 0, 3);
        for (int kind = 16; kind < 18; kind++) {
            Make.isPoint("touching from without", x, x.step(kind, c, touching), 5, 0, 1);
            Make.isPoint("touching from within", x, x.step(kind, within, c), 5, 0, 1);
            Due.is("apart", x.step(kind, c, none), -3);
            Due.is("one within the other", x.step(kind, inner, c), -3);
            Due.is("no fractions", x.step(kind, c, odd), -3);
            Due.is("the same middle", x.step(kind, c, same), -3);
            Due.is("the same", x.step(kind, c, c), -3);
        }
        Due.by("STEP 16, 17: be that SMALL or not (-3 as of 11, 14)");
        int p = Make.point(x, 1030, 1);
        int a = x.step(13, p, Make.point(x, -999, 1031));
        int b = x.step(12, Make.part(x, 1061, 2, 3061, 2), p);
        Due.is("the LINE is not SMALL", x.step(11, a, b), -4);
        Make.isPoint("first", x, x.step(16, a, b), -999, 1031, 1);
        Make.isPoint("second", x, x.step(17, a, b), 1030, 1, 1);
    }

    private static void step18And19() {
        Due.by("STEP 18 p c: the first LINE through p that touches c; 19 the second one: by A : B : C, compared as A, then B, then C");
        PlainGeometry x = new PlainGeometry();
        int c = Make.around(x, 0, 0, 5, 0);
        int p = Make.point(x, 7, 1);
        Make.isLine("first by A", x, x.step(18, p, c), -4, 3, 25);
        Make.isLine("second by A", x, x.step(19, p, c), -3, -4, 25);
        int beside = Make.part(x, 25, 3, 0, 1);
        Make.isLine("first of the same A by B", x, x.step(18, beside, c), -3, -4, 25);
        Make.isLine("second of the same A by B", x, x.step(19, beside, c), -3, 4, 25);
        int above = Make.part(x, 0, 1, 25, 3);
        Make.isLine("first of the same B", x, x.step(18, above, c), -4, -3, 25);
        Make.isLine("second of the same B", x, x.step(19, above, c), 4, -3, 25);
        Due.by("STEP 18, 19: -3 p is FAR, within c, or these are not fractions");
        int[] nothing = {Make.far(x, 1, 0), Make.far(x, 3, 4), Make.point(x, 0, 0), Make.point(x, 4, 2), Make.part(x, 4999, 1000, 0, 1),
            Make.point(x, 6, 0), Make.point(x, 6, 1)};
        for (int t : nothing) {
            Due.is("first from " + t, x.step(18, t, c), -3);
            Due.is("second from " + t, x.step(19, t, c), -3);
        }
        Due.by("STEP 18, 19: on c: both the tangent there");
        for (int kind = 18; kind < 20; kind++) {
            Make.isLine("at 3, 4", x, x.step(kind, Make.point(x, 3, 4), c), -3, -4, 25);
            Make.isLine("at -5, 0", x, x.step(kind, Make.point(x, -5, 0), c), 1, 0, 5);
            Make.isLine("at 0, 5", x, x.step(kind, Make.point(x, 0, 5), c), 0, -1, 5);
        }
        Due.by("A step that would give what is not SMALL answers -4: the tangent that is asked for");
        int high = Make.point(x, -5, 2500);
        Due.is("first is not", x.step(18, high, c), -4);
        Make.isLine("second is SMALL", x, x.step(19, high, c), 1, 0, 5);
    }

    private static void sortsOfSteps() {
        Due.by("-1 for an unknown NUMBER, THING (or one of another sort than told), kind: STEP");
        String first = "nplpppppppl" + "cppllccpp";
        String second = "nplpllllccc" + "cppcccccc";
        for (int kind = 0; kind < 20; kind++) {
            int a = oneOf(first.charAt(kind));
            int b = oneOf(second.charAt(kind));
            for (int none : Stock.UNKNOWN) {
                refuses(kind, none, b, -1);
                refuses(kind, a, none, -1);
            }
            int next = kind == 0 ? Stock.NUMBERS : Stock.THINGS;
            refuses(kind, next, b, -1);
            refuses(kind, a, next, -1);
            for (char other : "plc".toCharArray()) {
                if (kind > 0 && other != first.charAt(kind)) {
                    refuses(kind, oneOf(other), b, -1);
                }
                if (kind > 0 && other != second.charAt(kind)) {
                    refuses(kind, a, oneOf(other), -1);
                }
            }
        }
        for (int kind : new int[] {-1, -2, 20, 21, Make.TINY, Make.HUGE}) {
            refuses(kind, Stock.P, Stock.Q, -1);
            refuses(kind, Stock.P, Stock.RING, -1);
        }
    }

    private static int oneOf(char sort) {
        return sort == 'n' ? Stock.TWO : sort == 'p' ? Stock.P : sort == 'l' ? Stock.AXIS : Stock.RING;
    }

    private static void thing() {
        Due.by("9 0 its sort (0 POINT, 1 LINE, 2 CIRCLE; -1 unknown)");
        PlainGeometry x = Stock.made();
        Due.is("POINT", x.thing(Stock.P, 0), 0);
        Due.is("FAR POINT", x.thing(Stock.EAST, 0), 0);
        Due.is("LINE", x.thing(Stock.AXIS, 0), 1);
        Due.is("CIRCLE", x.thing(Stock.RING, 0), 2);
        Due.is("the last", x.thing(Stock.THINGS - 1, 0), 1);
        Due.is("the next", x.thing(Stock.THINGS, 0), -1);
        for (int none : Stock.UNKNOWN) {
            Due.is("sort of " + none, x.thing(none, 0), -1);
        }
        Due.by("9 1 to 3 X, Y, W, or A, B, C, 1 to 4 K, A, B, C");
        int c = x.step(13, Stock.P, Stock.Q);
        int l = x.step(1, Stock.P, Stock.Q);
        Make.isThing("CIRCLE", x, c, 2, 1, -6, -1, 8);
        Make.isThing("LINE", x, l, 1, -1, -2, 4);
        Make.isThing("POINT", x, Stock.Q, 0, 2, 1, 1);
        Due.by("9 0 for others");
        Due.is("POINT what 4", x.thing(Stock.Q, 4), 0);
        Due.is("LINE what 4", x.thing(l, 4), 0);
        Due.is("CIRCLE what 5", x.thing(c, 5), 0);
        for (int what : new int[] {-1, -2, 5, 6, Make.TINY, Make.HUGE}) {
            Due.is("POINT what " + what, x.thing(Stock.Q, what), 0);
            Due.is("LINE what " + what, x.thing(l, what), 0);
            Due.is("CIRCLE what " + what, x.thing(c, what), 0);
        }
        for (int none : Stock.UNKNOWN) {
            for (int what = 1; what < 6; what++) {
                Due.is("of " + none + " what " + what, x.thing(none, what), 0);
            }
            Due.is("of " + none + " what -1", x.thing(none, -1), 0);
        }
        Due.is("of the next", x.thing(c + 2, 1), 0);
    }
}
