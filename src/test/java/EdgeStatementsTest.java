/** The edges that the document names of STATEMENTS: promise 11. */
final class EdgeStatementsTest {
    /** The sorts of what each STATEMENT names: p POINT, l LINE, c CIRCLE. */
    private static final String[] NAMES = {"ppp", "lll", "pl", "pc", "ll", "ll", "pppp", "pppp",
        "lc", "cc", "cc", "ppp", "pc", "llc", "pppp"};

    public static void main(String[] args) {
        onOneLine();
        oneInCommon();
        onALine();
        onACircle();
        parallel();
        square();
        asFar();
        onOneCircle();
        touches();
        circlesTouch();
        circlesSquare();
        turnsLeft();
        within();
        poleOn();
        crossRatio();
        named();
        Due.end();
    }

    private static void is(PlainGeometry x, int kind, int a, int b, int c, int d, long due) {
        Due.is("holds(" + kind + ", " + a + ", " + b + ", " + c + ", " + d + ")", x.holds(kind, a, b, c, d), due);
    }

    /** What is not named is none that there is. */
    private static void of3(PlainGeometry x, int kind, int a, int b, int c, long due) {
        is(x, kind, a, b, c, -1, due);
    }

    private static void of2(PlainGeometry x, int kind, int a, int b, long due) {
        is(x, kind, a, b, -1, 200, due);
    }

    /** In each order. */
    private static void all3(PlainGeometry x, int kind, int a, int b, int c, long due) {
        of3(x, kind, a, b, c, due);
        of3(x, kind, a, c, b, due);
        of3(x, kind, b, a, c, due);
        of3(x, kind, b, c, a, due);
        of3(x, kind, c, a, b, due);
        of3(x, kind, c, b, a, due);
    }

    private static void onOneLine() {
        Due.by("STATEMENT 0 POINTS a, b, c are on one LINE");
        PlainGeometry x = Stock.made();
        int on = Make.part(x, 7, 3, 0, 1);
        int beside = Make.part(x, 2, 1, 1, 1 << 19);
        all3(x, 0, Stock.ORIGIN, Stock.P, on, 1);
        all3(x, 0, Stock.ORIGIN, Stock.P, beside, 0);
        all3(x, 0, Stock.ORIGIN, Stock.P, Stock.EAST, 1);
        all3(x, 0, Stock.ORIGIN, Stock.P, Stock.NORTH, 0);
        all3(x, 0, Stock.EAST, Stock.NORTH, Stock.ALONG, 1);
        all3(x, 0, Stock.EAST, Stock.NORTH, Stock.P, 0);
        all3(x, 0, Stock.P, Stock.P, Stock.Q, 1);
        all3(x, 0, Stock.ORIGIN, Stock.ORIGIN_AGAIN, Stock.Q, 1);
        all3(x, 0, Stock.P, Stock.P, Stock.EAST, 1);
        all3(x, 0, Stock.EAST, Stock.EAST, Stock.Q, 1);
        of3(x, 0, Stock.P, Stock.P, Stock.P, 1);
    }

    private static void oneInCommon() {
        Due.by("STATEMENT 1 LINES a, b, c have a POINT in common");
        PlainGeometry x = Stock.made();
        int upright = x.step(1, Stock.P, Stock.NORTH);
        int level = x.step(1, Stock.Q, Stock.EAST);
        int third = Make.line(x, 0, 0, 1, 5);
        int lowest = Make.line(x, 3, -2, 4, -2);
        all3(x, 1, Stock.AXIS, Stock.SLOPE, third, 1);
        all3(x, 1, Stock.AXIS, Stock.SLOPE, upright, 0);
        all3(x, 1, Stock.AXIS, level, lowest, 1);
        all3(x, 1, Stock.AXIS, level, Stock.ALL_FAR, 1);
        all3(x, 1, Stock.AXIS, level, upright, 0);
        all3(x, 1, Stock.AXIS, upright, Stock.ALL_FAR, 0);
        Due.by("STATEMENT 1 (so if two, or all, of them are the same)");
        all3(x, 1, Stock.AXIS, Stock.AXIS, upright, 1);
        all3(x, 1, Stock.AXIS, Stock.AXIS_AGAIN, Stock.SLOPE, 1);
        all3(x, 1, Stock.AXIS, Stock.AXIS, Stock.ALL_FAR, 1);
        all3(x, 1, Stock.ALL_FAR, Stock.ALL_FAR, Stock.SLOPE, 1);
        of3(x, 1, Stock.AXIS, Stock.AXIS, Stock.AXIS, 1);
        of3(x, 1, Stock.ALL_FAR, Stock.ALL_FAR, Stock.ALL_FAR, 1);
    }

    private static void onALine() {
        Due.by("STATEMENT 2 a POINT is on a LINE");
        PlainGeometry x = Stock.made();
        of2(x, 2, Stock.P, Stock.AXIS, 1);
        of2(x, 2, Stock.Q, Stock.SLOPE, 1);
        of2(x, 2, Stock.Q, Stock.AXIS, 0);
        of2(x, 2, Make.part(x, 5, 1, 1, 1 << 17), Stock.AXIS, 0);
        of2(x, 2, Stock.EAST, Stock.AXIS, 1);
        of2(x, 2, Stock.ALONG, Stock.AXIS, 0);
        of2(x, 2, Stock.ALONG, Stock.SLOPE, 1);
        of2(x, 2, Stock.ALONG, Stock.ALL_FAR, 1);
        of2(x, 2, Stock.ORIGIN, Stock.ALL_FAR, 0);
    }

    private static void onACircle() {
        Due.by("STATEMENT 3 a POINT is on a CIRCLE (FAR: not)");
        PlainGeometry x = Stock.made();
        int c = Make.around(x, 0, 0, 3, 4);
        of2(x, 3, Make.point(x, -5, 0), c, 1);
        of2(x, 3, Make.part(x, 7, 5, 24, 5), c, 1);
        of2(x, 3, Make.part(x, 4999, 1000, 0, 1), c, 0);
        of2(x, 3, Make.part(x, 5001, 1000, 0, 1), c, 0);
        of2(x, 3, Stock.ORIGIN, c, 0);
        of2(x, 3, Stock.EAST, c, 0);
        of2(x, 3, Stock.NORTH, c, 0);
        of2(x, 3, Stock.ALONG, Stock.RING, 0);
    }

    private static void parallel() {
        Due.by("STATEMENT 4 LINES a, b have a FAR POINT in common (so 0 : 0 : 1 with each)");
        PlainGeometry x = Stock.made();
        int level = x.step(1, Stock.Q, Stock.EAST);
        int upright = x.step(1, Stock.Q, Stock.NORTH);
        of2(x, 4, Stock.AXIS, level, 1);
        of2(x, 4, level, Stock.AXIS, 1);
        of2(x, 4, Stock.AXIS, Stock.AXIS, 1);
        of2(x, 4, Stock.AXIS, Stock.AXIS_AGAIN, 1);
        of2(x, 4, Stock.AXIS, Stock.SLOPE, 0);
        of2(x, 4, Stock.AXIS, upright, 0);
        of2(x, 4, Stock.AXIS, Make.line(x, 0, 0, 1 << 19, 1), 0);
        of2(x, 4, Stock.ALL_FAR, Stock.SLOPE, 1);
        of2(x, 4, upright, Stock.ALL_FAR, 1);
        of2(x, 4, Stock.ALL_FAR, Stock.ALL_FAR, 1);
    }

    private static void square() {
        Due.by("STATEMENT 5 LINES a, b are square (neither has all FAR ones)");
        PlainGeometry x = Stock.made();
        int upright = x.step(1, Stock.Q, Stock.NORTH);
        int across = x.step(1, Stock.P, Stock.ACROSS);
        of2(x, 5, Stock.AXIS, upright, 1);
        of2(x, 5, upright, Stock.AXIS, 1);
        of2(x, 5, Stock.SLOPE, across, 1);
        of2(x, 5, Stock.AXIS, across, 0);
        of2(x, 5, Stock.AXIS, Stock.AXIS_AGAIN, 0);
        of2(x, 5, Stock.AXIS, Make.line(x, 0, 0, 1, 1 << 19), 0);
        of2(x, 5, Stock.ALL_FAR, Stock.AXIS, 0);
        of2(x, 5, Stock.AXIS, Stock.ALL_FAR, 0);
        of2(x, 5, Stock.ALL_FAR, Stock.ALL_FAR, 0);
    }

    private static void asFar() {
        Due.by("STATEMENT 6 POINTS a, b, c, d: as far from a to b as from c to d (all NEAR, else not)");
        PlainGeometry x = Stock.made();
        int p = Make.point(x, 5, 5);
        int q = Make.point(x, 4, 7);
        int o = Stock.ORIGIN;
        is(x, 6, o, Stock.Q, p, q, 1);
        is(x, 6, o, Stock.Q, q, p, 1);
        is(x, 6, o, Stock.Q, Stock.Q, o, 1);
        is(x, 6, o, o, p, p, 1);
        is(x, 6, o, Stock.ORIGIN_AGAIN, p, p, 1);
        is(x, 6, o, Stock.Q, p, p, 0);
        is(x, 6, o, o, p, q, 0);
        is(x, 6, o, Stock.Q, p, Make.part(x, 3999, 1000, 7, 1), 0);
        int[] near = {o, Stock.Q, p, q};
        for (int far : new int[] {Stock.EAST, Stock.NORTH, Stock.ALONG}) {
            for (int i = 0; i < 4; i++) {
                int[] told = near.clone();
                told[i] = far;
                is(x, 6, told[0], told[1], told[2], told[3], 0);
            }
            is(x, 6, far, far, o, o, 0);
            is(x, 6, o, o, far, far, 0);
            is(x, 6, o, far, o, far, 0);
            is(x, 6, far, o, far, o, 0);
            is(x, 6, far, far, far, far, 0);
        }
    }

    private static void onOneCircle() {
        Due.by("STATEMENT 7 NEAR POINTS a, b, c, d are on one CIRCLE");
        PlainGeometry x = Stock.made();
        int[] on = {Make.point(x, 3, 4), Make.point(x, -5, 0), Make.part(x, 7, 5, -24, 5), Make.point(x, -3, 4)};
        is(x, 7, on[0], on[1], on[2], on[3], 1);
        is(x, 7, on[3], on[0], on[2], on[1], 1);
        for (int i = 0; i < 4; i++) {
            int[] told = on.clone();
            told[i] = Make.part(x, 4999, 1000, 0, 1);
            is(x, 7, told[0], told[1], told[2], told[3], 0);
            told[i] = Stock.ORIGIN;
            is(x, 7, told[0], told[1], told[2], told[3], 0);
            told[i] = Stock.NORTH;
            is(x, 7, told[0], told[1], told[2], told[3], 0);
            told[i] = Stock.ALONG;
            is(x, 7, told[0], told[1], told[2], told[3], 0);
        }
        int a = Make.point(x, 7, 0);
        int b = Make.point(x, -2, 0);
        is(x, 7, Stock.ORIGIN, Stock.P, a, b, 0);
        is(x, 7, Stock.ORIGIN, Stock.P, a, Stock.Q, 0);
        is(x, 7, Stock.ORIGIN, Stock.Q, a, Stock.P, 0);
        is(x, 7, Stock.EAST, Stock.NORTH, Stock.ALONG, Stock.ACROSS, 0);
        Due.by("STATEMENT 7 no two the same");
        int again = Make.point(x, 3, 4);
        for (int i = 0; i < 4; i++) {
            for (int j = i + 1; j < 4; j++) {
                int[] told = on.clone();
                told[i] = on[0];
                told[j] = on[0];
                is(x, 7, told[0], told[1], told[2], told[3], 0);
                told[j] = again;
                is(x, 7, told[0], told[1], told[2], told[3], 0);
            }
        }
        is(x, 7, on[0], on[0], on[0], on[0], 0);
        is(x, 7, on[0], on[1], on[0], on[1], 0);
    }

    private static void touches() {
        Due.by("STATEMENT 8 a LINE touches a CIRCLE");
        PlainGeometry x = Stock.made();
        of2(x, 8, Make.line(x, 4, 0, 4, 1), Stock.RING, 1);
        of2(x, 8, Make.line(x, 0, -4, 1, -4), Stock.RING, 1);
        of2(x, 8, x.step(9, Stock.Q, Stock.INNER_RING), Stock.INNER_RING, 1);
        int inside = x.step(1, Make.part(x, 3999, 1000, 0, 1), Stock.NORTH);
        int outside = x.step(1, Make.part(x, 4001, 1000, 0, 1), Stock.NORTH);
        of2(x, 8, inside, Stock.RING, 0);
        of2(x, 8, outside, Stock.RING, 0);
        of2(x, 8, Stock.AXIS, Stock.RING, 0);
        of2(x, 8, Stock.ALL_FAR, Stock.RING, 0);
        of2(x, 8, Stock.ALL_FAR, Stock.INNER_RING, 0);
    }

    private static void circlesTouch() {
        Due.by("STATEMENT 9 CIRCLES a, b touch (one place alone)");
        PlainGeometry x = Stock.made();
        int[] touching = {Make.around(x, 9, 0, 4, 0), Make.around(x, 3, 0, 4, 0), Make.around(x, 0, -2, 0, -4)};
        int around = x.step(12, Make.point(x, -3, 0), Make.point(x, 4, 0));
        for (int c : touching) {
            of2(x, 9, Stock.RING, c, 1);
            of2(x, 9, c, Stock.RING, 1);
        }
        of2(x, 9, around, Stock.RING, 1);
        int[] not = {Stock.RING, Stock.INNER_RING, Make.around(x, 9, 0, 5, 0), Make.around(x, 2, 0, 1, 0),
            Make.around(x, 4, 0, 0, 0), x.step(12, Make.point(x, 9, 0), Make.part(x, 39, 10, 0, 1)),
            x.step(12, Make.point(x, 9, 0), Make.part(x, 41, 10, 0, 1))};
        for (int c : not) {
            of2(x, 9, Stock.RING, c, 0);
            of2(x, 9, c, Stock.RING, 0);
        }
        of2(x, 9, Stock.RING, x.step(12, Stock.ORIGIN, Stock.P), 0);
    }

    private static void circlesSquare() {
        Due.by("STATEMENT 10 CIRCLES a, b are square to one another");
        PlainGeometry x = Stock.made();
        int c = Make.around(x, 5, 0, 5, 3);
        of2(x, 10, Stock.RING, c, 1);
        of2(x, 10, c, Stock.RING, 1);
        int narrow = x.step(12, Make.part(x, 17, 4, 0, 1), Make.part(x, 17, 4, 5, 4));
        of2(x, 10, Stock.RING, narrow, 0);
        int square = x.step(12, Make.part(x, 20, 3, 0, 1), Make.part(x, 20, 3, 16, 3));
        of2(x, 10, Stock.RING, square, 1);
        int[] not = {Stock.RING, Stock.INNER_RING, Make.around(x, 5, 0, 5, 2), Make.around(x, 5, 0, 5, 4), Make.around(x, 9, 0, 4, 0),
            Make.around(x, 3, 0, 4, 0), x.step(12, Make.point(x, 5, 0), Make.part(x, 5, 1, 29, 10))};
        for (int t : not) {
            of2(x, 10, Stock.RING, t, 0);
            of2(x, 10, t, Stock.RING, 0);
        }
    }

    private static void turnsLeft() {
        Due.by("STATEMENT 11 NEAR a, b, c turn to the left");
        PlainGeometry x = Stock.made();
        of3(x, 11, Stock.ORIGIN, Stock.P, Stock.Q, 1);
        of3(x, 11, Stock.P, Stock.Q, Stock.ORIGIN, 1);
        of3(x, 11, Stock.P, Stock.ORIGIN, Stock.Q, 0);
        of3(x, 11, Stock.ORIGIN, Stock.P, Make.part(x, 9, 1, 1, 1 << 16), 1);
        of3(x, 11, Stock.ORIGIN, Stock.P, Make.part(x, 9, 1, -1, 1 << 16), 0);
        of3(x, 11, Stock.ORIGIN, Stock.P, Make.point(x, 9, 0), 0);
        of3(x, 11, Stock.ORIGIN, Stock.P, Make.point(x, -9, 0), 0);
        all3(x, 11, Stock.P, Stock.P, Stock.Q, 0);
        of3(x, 11, Stock.P, Stock.P, Stock.P, 0);
        for (int far : new int[] {Stock.EAST, Stock.NORTH, Stock.ALONG, Stock.ACROSS}) {
            all3(x, 11, Stock.ORIGIN, Stock.P, far, 0);
            all3(x, 11, Stock.Q, Stock.P, far, 0);
        }
        all3(x, 11, Stock.EAST, Stock.NORTH, Stock.P, 0);
        all3(x, 11, Stock.EAST, Stock.NORTH, Stock.ALONG, 0);
    }

    private static void within() {
        Due.by("STATEMENT 12 POINT a is within CIRCLE b");
        PlainGeometry x = Stock.made();
        of2(x, 12, Stock.ORIGIN, Stock.RING, 1);
        of2(x, 12, Stock.Q, Stock.RING, 1);
        of2(x, 12, Make.part(x, 3999, 1000, 0, 1), Stock.RING, 1);
        of2(x, 12, Stock.P, Stock.RING, 0);
        of2(x, 12, Make.part(x, 4001, 1000, 0, 1), Stock.RING, 0);
        of2(x, 12, Make.point(x, 0, -4), Stock.RING, 0);
        of2(x, 12, Stock.P, Stock.INNER_RING, 0);
        for (int far : new int[] {Stock.EAST, Stock.NORTH, Stock.ALONG, Stock.ACROSS}) {
            of2(x, 12, far, Stock.RING, 0);
        }
    }

    private static void poleOn() {
        Due.by("STATEMENT 13 LINE a, and the pole of it in CIRCLE c on LINE b");
        PlainGeometry x = Stock.made();
        int upright = x.step(1, Stock.Q, Stock.NORTH);
        int tangent = Make.line(x, 4, 0, 4, 1);
        of3(x, 13, Stock.AXIS, upright, Stock.RING, 1);
        of3(x, 13, Stock.AXIS, Stock.AXIS, Stock.RING, 0);
        of3(x, 13, Stock.AXIS, Stock.ALL_FAR, Stock.RING, 1);
        of3(x, 13, Stock.ALL_FAR, Stock.AXIS, Stock.RING, 1);
        of3(x, 13, Stock.ALL_FAR, upright, Stock.RING, 0);
        of3(x, 13, Stock.ALL_FAR, Stock.ALL_FAR, Stock.RING, 0);
        of3(x, 13, tangent, tangent, Stock.RING, 1);
        of3(x, 13, tangent, tangent, Stock.INNER_RING, 0);
        of3(x, 13, upright, Make.line(x, 8, 0, 9, 5), Stock.RING, 1);
        of3(x, 13, upright, Make.line(x, 7, 0, 9, 5), Stock.RING, 0);
        // the pole is not SMALL: no THING is made of it
        int far = x.step(1, Make.part(x, 1, 1 << 19, 0, 1), Stock.NORTH);
        Due.is("the pole alone", x.step(10, far, Stock.RING), -4);
        of3(x, 13, far, Stock.AXIS, Stock.RING, 1);
        of3(x, 13, far, upright, Stock.RING, 0);
    }

    private static void crossRatio() {
        Due.by("STATEMENT 14 the cross ratio of POINTS a, b, c, d of one LINE is -1");
        PlainGeometry x = Stock.made();
        int o = Stock.ORIGIN;
        int p = Stock.P;
        int one = Make.point(x, 1, 0);
        int minus = Make.point(x, -2, 0);
        int two = Make.point(x, 2, 0);
        is(x, 14, o, p, one, minus, 1);
        is(x, 14, p, o, one, minus, 1);
        is(x, 14, o, p, minus, one, 1);
        is(x, 14, one, minus, o, p, 1);
        is(x, 14, o, one, p, minus, 0);
        is(x, 14, o, minus, one, p, 0);
        is(x, 14, o, p, two, Stock.EAST, 1);
        is(x, 14, o, p, Stock.EAST, two, 1);
        is(x, 14, Stock.EAST, two, o, p, 1);
        is(x, 14, o, p, one, Stock.EAST, 0);
        is(x, 14, o, p, one, Make.part(x, -2001, 1000, 0, 1), 0);
        is(x, 14, Stock.EAST, Stock.NORTH, Stock.ALONG, Make.far(x, -2, 1), 1);
        is(x, 14, Stock.EAST, Stock.NORTH, Stock.ALONG, Stock.ACROSS, 0);
        int above = Make.point(x, 0, 4);
        int low = Make.point(x, 0, 1);
        int below = Make.point(x, 0, -2);
        is(x, 14, o, above, low, below, 1);
        is(x, 14, o, low, above, below, 0);
        is(x, 14, o, above, low, Make.part(x, 0, 1, -2001, 1000), 0);
        is(x, 14, o, above, Make.point(x, 0, 2), Stock.NORTH, 1);
        is(x, 14, o, above, low, Stock.NORTH, 0);
        is(x, 14, Make.point(x, 3, 0), Make.point(x, 3, 4), Make.point(x, 3, 1), Make.point(x, 3, -2), 1);
        Due.by("STATEMENT 14 of one LINE");
        is(x, 14, o, p, one, Stock.Q, 0);
        is(x, 14, o, p, Stock.Q, minus, 0);
        is(x, 14, o, Stock.Q, one, minus, 0);
        is(x, 14, Stock.Q, p, one, minus, 0);
        is(x, 14, o, p, two, Stock.ALONG, 0);
        is(x, 14, o, p, Make.part(x, 2, 1, 1, 1000), Stock.EAST, 0);
        is(x, 14, o, p, Stock.NORTH, Stock.EAST, 0);
        Due.by("STATEMENT 14 (no two the same)");
        int[] told = {o, p, one, minus};
        for (int i = 0; i < 4; i++) {
            for (int j = 0; j < 4; j++) {
                int[] two4 = told.clone();
                two4[i] = told[j];
                is(x, 14, two4[0], two4[1], two4[2], two4[3], i == j ? 1 : 0);
            }
        }
        is(x, 14, o, Stock.ORIGIN_AGAIN, one, minus, 0);
        is(x, 14, o, p, Stock.ORIGIN_AGAIN, o, 0);
        is(x, 14, o, p, o, Stock.ORIGIN_AGAIN, 0);
        is(x, 14, Stock.EAST, Stock.EAST, o, p, 0);
        is(x, 14, o, p, p, p, 0);
        is(x, 14, o, o, o, o, 0);
    }

    private static int oneOf(char sort) {
        return sort == 'l' ? Stock.AXIS : sort == 'c' ? Stock.RING : Stock.P;
    }

    private static int[] allOf(String sorts) {
        int[] told = new int[4];
        for (int i = 0; i < 4; i++) {
            told[i] = i < sorts.length() ? oneOf(sorts.charAt(i)) : Stock.P;
        }
        return told;
    }

    private static void named() {
        for (int kind = 0; kind < 15; kind++) {
            PlainGeometry x = Stock.made();
            String before = Refused.state(x);
            Due.by("11 -1 (of those THINGS that it names) " + kind);
            for (int i = 0; i < NAMES[kind].length(); i++) {
                int[] told = allOf(NAMES[kind]);
                for (int none : new int[] {-1, -2, Stock.THINGS, 200, Make.TINY, Make.HUGE}) {
                    told[i] = none;
                    is(x, kind, told[0], told[1], told[2], told[3], -1);
                }
                for (char other : "plc".toCharArray()) {
                    told[i] = oneOf(other);
                    int got = x.holds(kind, told[0], told[1], told[2], told[3]);
                    Due.is("of " + other + " at " + i, got == -1, other != NAMES[kind].charAt(i));
                }
            }
            int[] told = allOf(NAMES[kind]);
            int due = x.holds(kind, told[0], told[1], told[2], told[3]);
            Due.is("so or not", due == 0 || due == 1);
            for (int i = NAMES[kind].length(); i < 4; i++) {
                for (int any : new int[] {-1, Stock.THINGS, Stock.AXIS, Stock.RING, Stock.EAST, Make.TINY, Make.HUGE}) {
                    told[i] = any;
                    is(x, kind, told[0], told[1], told[2], told[3], due);
                }
            }
            Due.is("nothing changes", Refused.state(x).equals(before));
        }
        Due.by("11 -1: another kind");
        PlainGeometry x = Stock.made();
        for (int kind : new int[] {-1, -2, 15, 16, Make.TINY, Make.HUGE}) {
            is(x, kind, Stock.P, Stock.P, Stock.P, Stock.P, -1);
            is(x, kind, Stock.AXIS, Stock.AXIS, Stock.RING, Stock.P, -1);
        }
    }
}
