/** Each promise of the document: ordinary inputs, the edges that it names, and wrong inputs. */
final class PromiseTest {
    private static final int HUGE = Integer.MAX_VALUE;
    private static final int TINY = Integer.MIN_VALUE;

    public static void main(String[] args) {
        aNewObject();
        fraction();
        apply();
        simplest();
        compare();
        numberOf();
        near();
        stepPointsAndLines();
        stepWithFarOnes();
        stepCircles();
        stepCrossings();
        stepTangents();
        stepWrong();
        three();
        threeHarmonic();
        thing();
        measure();
        holdsLines();
        holdsCircles();
        holdsCrossRatio();
        polygonAndCorner();
        polygonOf();
        triangulations();
        place();
        around();
        term();
        combine();
        putIn();
        coefficientAndSame();
        value();
        tile();
        rows();
        list();
        count();
        fullRooms();
        Due.end();
    }

    // ---- what the tests make

    private static int number(PlainGeometry x, long up, long down) {
        return x.fraction(up, down);
    }

    private static int point(PlainGeometry x, long px, long py) {
        return x.step(0, x.fraction(px, 1), x.fraction(py, 1));
    }

    /** The POINT far away in a direction, as what two parallel lines have in common. */
    private static int far(PlainGeometry x, long dx, long dy) {
        int a = x.step(1, point(x, 0, 0), point(x, dx, dy));
        int b = x.step(5, point(x, dy + 1, -dx - 1), a);
        return x.step(2, a, b);
    }

    private static int allFar(PlainGeometry x) {
        return x.step(1, far(x, 1, 0), far(x, 0, 1));
    }

    private static int circle(PlainGeometry x, long mx, long my, long px, long py) {
        return x.step(12, point(x, mx, my), point(x, px, py));
    }

    private static void isThing(String call, PlainGeometry x, int t, int sort, long... parts) {
        Due.is(call + " sort of " + t, x.thing(t, 0), sort);
        for (int i = 0; i < parts.length; i++) {
            Due.is(call + " part " + i, x.thing(t, i + 1), parts[i]);
        }
    }

    private static void isNumber(String call, PlainGeometry x, int a, long up, long down) {
        Due.is(call + " is a number: " + a, a >= 0);
        Due.is(call + " n", x.numberOf(a, 0), up);
        Due.is(call + " d", x.numberOf(a, 1), down);
    }

    private static int throwsOf(PlainGeometry x, long up, long down) {
        try {
            x.fraction(up, down);
            return 0;
        } catch (ArithmeticException e) {
            return 1;
        }
    }

    // ---- NUMBERS

    private static void aNewObject() {
        PlainGeometry x = new PlainGeometry();
        PlainGeometry y = new PlainGeometry();
        for (int what = 0; what < 4; what++) {
            Due.is("new count " + what, x.count(what), 0);
        }
        x.fraction(1, 2);
        x.polygon();
        x.term(1, 0);
        Due.is("other object", y.count(0) + y.count(2) + y.count(3), 0);
    }

    private static void fraction() {
        PlainGeometry x = new PlainGeometry();
        Due.is("1 / 0", throwsOf(x, 1, 0), 1);
        Due.is("0 / 0", throwsOf(x, 0, 0), 1);
        Due.is("-2^63 / 0", throwsOf(x, Long.MIN_VALUE, 0), 1);
        Due.is("nothing made", x.count(0), 0);
        isNumber("6 / -4", x, x.fraction(6, -4), -3, 2);
        isNumber("-6 / -4", x, x.fraction(-6, -4), 3, 2);
        isNumber("0 / -7", x, x.fraction(0, -7), 0, 1);
        isNumber("2^30", x, x.fraction(1L << 30, 1), 1L << 30, 1);
        isNumber("-2^30", x, x.fraction(1L << 30, -1), -(1L << 30), 1);
        isNumber("1 / 2^30", x, x.fraction(-1, -(1L << 30)), 1, 1L << 30);
        isNumber("2^62 / 2^40", x, x.fraction(1L << 62, 1L << 40), 1L << 22, 1);
        Due.is("2^30 + 1", x.fraction((1L << 30) + 1, 1), -4);
        Due.is("-2^30 - 1", x.fraction(-(1L << 30) - 1, 1), -4);
        Due.is("1 / (2^30 + 1)", x.fraction(1, (1L << 30) + 1), -4);
        Due.is("-2^63 / -2^63", x.fraction(Long.MIN_VALUE, Long.MIN_VALUE), -4);
        Due.is("0 / -2^63", x.fraction(0, Long.MIN_VALUE), -4);
        Due.is("-2^63 / 2^62", x.fraction(Long.MIN_VALUE, 1L << 62), -4);
        isNumber("max / -max", x, x.fraction(Long.MAX_VALUE, -Long.MAX_VALUE), -1, 1);
        Due.is("eight made", x.count(0), 8);
    }

    private static void apply() {
        PlainGeometry x = new PlainGeometry();
        int half = number(x, 1, 2);
        int third = number(x, 1, 3);
        int minus = number(x, -7, 2);
        int zero = number(x, 0, 1);
        int big = number(x, 1L << 30, 1);
        int square = number(x, 49, 36);
        isNumber("1/2 + 1/3", x, x.apply(0, half, third), 5, 6);
        isNumber("1/2 - 1/3", x, x.apply(1, half, third), 1, 6);
        isNumber("1/3 - 1/2", x, x.apply(1, third, half), -1, 6);
        isNumber("1/2 * -7/2", x, x.apply(2, half, minus), -7, 4);
        isNumber("1/2 / -7/2", x, x.apply(3, half, minus), -1, 7);
        isNumber("big / big", x, x.apply(3, big, big), 1, 1);
        Due.is("/ 0", x.apply(3, half, zero), -3);
        isNumber("lesser", x, x.apply(4, half, minus), -7, 2);
        isNumber("greater", x, x.apply(5, half, minus), 1, 2);
        isNumber("first term", x, x.apply(6, minus, half), -4, 1);
        isNumber("first term of 1/2", x, x.apply(6, half, half), 0, 1);
        isNumber("root", x, x.apply(7, square, half), 7, 6);
        isNumber("root of 0", x, x.apply(7, zero, half), 0, 1);
        isNumber("root of 2^30", x, x.apply(7, big, half), 1 << 15, 1);
        Due.is("root of 1/2", x.apply(7, half, half), -3);
        Due.is("root below 0", x.apply(7, minus, half), -3);
        Due.is("root of -4/9", x.apply(7, number(x, -4, 9), half), -3);
        isNumber("size", x, x.apply(8, minus, half), 7, 2);
        Due.is("big + big", x.apply(0, big, big), -4);
        Due.is("big * big", x.apply(2, big, big), -4);
        Due.is("1/2 / big", x.apply(3, half, big), -4);
        int made = x.count(0);
        Due.is("op -1", x.apply(-1, half, half), -1);
        Due.is("op 10", x.apply(10, half, half), -1);
        Due.is("unknown a", x.apply(0, made, half), -1);
        Due.is("unknown b", x.apply(3, half, -1), -1);
        Due.is("unknown b of 6", x.apply(6, half, made), -1);
        Due.is("unknown b of 8", x.apply(8, half, HUGE), -1);
        Due.is("then nothing changes", x.count(0), made);
    }

    private static void between(long aUp, long aDown, long bUp, long bDown, long up, long down) {
        PlainGeometry x = new PlainGeometry();
        int a = number(x, aUp, aDown);
        int b = number(x, bUp, bDown);
        String told = aUp + "/" + aDown + " to " + bUp + "/" + bDown;
        isNumber("between " + told, x, x.apply(9, a, b), up, down);
        isNumber("between back " + told, x, x.apply(9, b, a), up, down);
    }

    private static void simplest() {
        between(-1, 2, 5, 1, 0, 1);
        between(0, 1, 5, 1, 0, 1);
        between(3, 7, 3, 7, 3, 7);
        between(5, 2, 100, 1, 3, 1);
        between(-100, 1, -5, 2, -3, 1);
        between(2, 1, 5, 1, 2, 1);
        between(1, 3, 1, 2, 1, 2);
        between(2, 5, 3, 7, 2, 5);
        between(31, 10, 63, 20, 22, 7);
        between(-63, 20, -31, 10, -22, 7);
        between((1L << 30) - 1, 1L << 30, 1, 1, 1, 1);
        between(1, 1L << 30, 1, (1L << 30) - 1, 1, (1L << 30) - 1);
        for (int aUp = -20; aUp <= 20; aUp += 3) {
            for (int bUp = -19; bUp <= 20; bUp += 2) {
                checkBetween(aUp, 7, bUp, 13);
            }
        }
    }

    /** Looks at all denominators from 1, and at all upper numbers from 0, above 0 first. */
    private static void checkBetween(long aUp, long aDown, long bUp, long bDown) {
        for (long down = 1; ; down++) {
            for (long up = 0; up <= 40 * down; up++) {
                if (isIn(up, down, aUp, aDown, bUp, bDown)) {
                    between(aUp, aDown, bUp, bDown, up, down);
                    return;
                }
                if (isIn(-up, down, aUp, aDown, bUp, bDown)) {
                    between(aUp, aDown, bUp, bDown, -up, down);
                    return;
                }
            }
        }
    }

    private static boolean isIn(long up, long down, long aUp, long aDown, long bUp, long bDown) {
        long toA = Long.signum(up * aDown - aUp * down);
        long toB = Long.signum(up * bDown - bUp * down);
        return toA * toB <= 0;
    }

    private static void compare() {
        PlainGeometry x = new PlainGeometry();
        int a = number(x, -1, 3);
        int b = number(x, -1, 2);
        int c = number(x, 2, -6);
        int big = number(x, 1L << 30, (1L << 30) - 1);
        int bigger = number(x, (1L << 30) - 1, (1L << 30) - 2);
        Due.is("-1/3 to -1/2", x.compare(a, b), 1);
        Due.is("-1/2 to -1/3", x.compare(b, a), -1);
        Due.is("-1/3 to itself", x.compare(a, c), 0);
        Due.is("great ones", x.compare(big, bigger), -1);
        Due.is("unknown a", x.compare(-1, a), -9);
        Due.is("unknown b", x.compare(a, 5), -9);
        Due.is("unknown both", x.compare(TINY, HUGE), -9);
    }

    private static void numberOf() {
        PlainGeometry x = new PlainGeometry();
        int a = number(x, 415, 93);
        long[] terms = {4, 2, 6, 7};
        Due.is("terms", x.numberOf(a, 2), 4);
        for (int i = 0; i < 4; i++) {
            Due.is("term " + i, x.numberOf(a, 3 + i), terms[i]);
        }
        Due.is("no term 4", x.numberOf(a, 7), 0);
        Due.is("no such what", x.numberOf(a, -1), 0);
        Due.is("far what", x.numberOf(a, HUGE), 0);
        Due.is("least what", x.numberOf(a, TINY), 0);
        int b = number(x, -7, 3);
        Due.is("terms of -7/3", x.numberOf(b, 2), 3);
        Due.is("term 0 of -7/3", x.numberOf(b, 3), -3);
        Due.is("term 1 of -7/3", x.numberOf(b, 4), 1);
        Due.is("term 2 of -7/3", x.numberOf(b, 5), 2);
        int zero = number(x, 0, 5);
        Due.is("terms of 0", x.numberOf(zero, 2), 1);
        Due.is("term 0 of 0", x.numberOf(zero, 3), 0);
        Due.is("d of 0", x.numberOf(zero, 1), 1);
        int many = number(x, 832040, 514229);
        Due.is("terms of a quotient of Fibonacci", x.numberOf(many, 2), 28);
        Due.is("its last term", x.numberOf(many, 3 + 27), 2);
        for (int what = -1; what < 6; what++) {
            Due.is("unknown " + what, x.numberOf(9, what), 0);
            Due.is("unknown below " + what, x.numberOf(-1, what), 0);
        }
    }

    private static void near() {
        PlainGeometry x = new PlainGeometry();
        Due.is("1/3", x.near(number(x, 1, 3)), 1.0 / 3.0);
        Due.is("-2/7", x.near(number(x, -2, 7)), -2.0 / 7.0);
        Due.is("0", x.near(number(x, 0, -7)), 0.0);
        Due.is("2^30 / (2^30 - 1)", x.near(number(x, 1L << 30, (1L << 30) - 1)), 1073741824.0 / 1073741823.0);
        Due.is("unknown", x.near(4), 0.0);
        Due.is("unknown below", x.near(-1), 0.0);
    }

    // ---- STEP

    private static void stepPointsAndLines() {
        PlainGeometry x = new PlainGeometry();
        int p = x.step(0, number(x, 2, 3), number(x, -1, 2));
        isThing("2/3, -1/2", x, p, 0, 4, -3, 6);
        Due.is("not SMALL", x.step(0, number(x, (1L << 20) + 1, 1), number(x, 0, 1)), -4);
        isThing("2^20", x, x.step(0, number(x, 1L << 20, 1), number(x, 0, 1)), 0, 1L << 20, 0, 1);
        Due.is("W not SMALL", x.step(0, number(x, 1, 1024), number(x, 1, 1025)), -4);
        int a = point(x, 1, 2);
        int b = point(x, 4, 3);
        int line = x.step(1, a, b);
        isThing("line", x, line, 1, 1, -3, 5);
        isThing("line back", x, x.step(1, b, a), 1, x.thing(line, 1), x.thing(line, 2), x.thing(line, 3));
        Due.is("the same", x.step(1, a, point(x, 1, 2)), -3);
        int other = x.step(1, point(x, 0, 0), point(x, 1, 1));
        isThing("both have", x, x.step(2, line, other), 0, 5, 5, 2);
        Due.is("lines the same", x.step(2, line, x.step(1, b, a)), -3);
        isThing("middle", x, x.step(3, a, b), 0, 5, 5, 2);
        isThing("middle of one", x, x.step(3, a, a), 0, 1, 2, 1);
        isThing("foot", x, x.step(4, point(x, 2, 0), other), 0, 1, 1, 1);
        isThing("foot of one on it", x, x.step(4, point(x, 3, 3), other), 0, 3, 3, 1);
        isThing("along", x, x.step(5, point(x, 2, 0), other), 1, -1, 1, 2);
        isThing("square", x, x.step(6, point(x, 2, 0), other), 1, -1, -1, 2);
        isThing("mirrored", x, x.step(7, point(x, 2, 0), other), 0, 0, 2, 1);
        isThing("mirrored on it", x, x.step(7, point(x, 3, 3), other), 0, 3, 3, 1);
    }

    private static void stepWithFarOnes() {
        PlainGeometry x = new PlainGeometry();
        int east = far(x, 1, 0);
        int north = far(x, 0, 1);
        int p = point(x, 2, 3);
        isThing("east", x, east, 0, 1, 0, 0);
        isThing("north", x, north, 0, 0, 1, 0);
        isThing("far below", x, far(x, -2, -4), 0, 1, 2, 0);
        isThing("far with -", x, far(x, 3, -1), 0, -3, 1, 0);
        int all = x.step(1, east, north);
        isThing("all far", x, all, 1, 0, 0, 1);
        Due.is("far the same", x.step(1, east, far(x, 2, 0)), -3);
        int flat = x.step(1, p, east);
        isThing("line to a far one", x, flat, 1, 0, -1, 3);
        isThing("both have", x, x.step(2, flat, all), 0, 1, 0, 0);
        Due.is("middle with far", x.step(3, p, east), -3);
        Due.is("middle of far", x.step(3, east, east), -3);
        Due.is("foot of far", x.step(4, east, flat), -3);
        Due.is("foot on all far", x.step(4, p, all), -3);
        Due.is("along: that is p", x.step(5, east, flat), -3);
        isThing("along from far", x, x.step(5, north, flat), 1, 0, 0, 1);
        Due.is("along all far", x.step(5, p, all), -3);
        Due.is("square: that is p", x.step(6, north, flat), -3);
        isThing("square from far", x, x.step(6, east, flat), 1, 0, 0, 1);
        Due.is("square to all far", x.step(6, p, all), -3);
        Due.is("far mirrored", x.step(7, north, flat), -3);
        Due.is("mirrored in all far", x.step(7, p, all), -3);
        int c = circle(x, 1, 1, 1, 4);
        Due.is("inverse of far", x.step(8, east, c), -3);
        Due.is("inverse of the middle", x.step(8, point(x, 1, 1), c), -3);
        isThing("polar of far", x, x.step(9, east, c), 1, -1, 0, 1);
        isThing("polar of the middle", x, x.step(9, point(x, 1, 1), c), 1, 0, 0, 1);
        isThing("pole of all far", x, x.step(10, all, c), 0, 1, 1, 1);
        isThing("pole of a line through the middle", x, x.step(10, x.step(1, point(x, 1, 1), east), c), 0, 0, 1, 0);
        Due.is("around far", x.step(12, east, p), -3);
        Due.is("through far", x.step(12, p, east), -3);
        Due.is("over far", x.step(13, p, north), -3);
        Due.is("all far and a circle", x.step(14, all, c), -3);
        Due.is("tangents from far", x.step(18, east, c), -3);
        Due.is("second from far", x.step(19, north, c), -3);
    }

    private static void stepCircles() {
        PlainGeometry x = new PlainGeometry();
        int c = circle(x, 1, -2, 4, 2);
        isThing("around", x, c, 2, 1, -2, 4, -20);
        Due.is("around the same", x.step(12, point(x, 1, 1), point(x, 1, 1)), -3);
        isThing("over", x, x.step(13, point(x, 0, 0), point(x, 3, 1)), 2, 1, -3, -1, 0);
        Due.is("over the same", x.step(13, point(x, 1, 1), point(x, 1, 1)), -3);
        int part = x.step(13, x.step(0, number(x, 1, 2), number(x, 0, 1)), x.step(0, number(x, 1, 3), number(x, 1, 1)));
        isThing("over, with K", x, part, 2, 6, -5, -6, 1);
        isThing("inverse", x, x.step(8, point(x, 11, -2), c), 0, 7, -4, 2);
        isThing("inverse of one on it", x, x.step(8, point(x, 4, 2), c), 0, 4, 2, 1);
        isThing("inverse of one within", x, x.step(8, point(x, 1, -1), c), 0, 1, 23, 1);
        int polar = x.step(9, point(x, 11, -2), c);
        isThing("polar", x, polar, 1, -2, 0, 7);
        isThing("pole", x, x.step(10, polar, c), 0, 11, -2, 1);
        int d = circle(x, 5, 1, 5, 2);
        isThing("equal powers", x, x.step(11, c, d), 1, -8, -6, 45);
        Due.is("the same middle", x.step(11, c, circle(x, 1, -2, 0, 0)), -3);
        Due.is("the same circle", x.step(11, c, c), -3);
        Due.is("too great", x.step(12, point(x, 1 << 20, 0), point(x, 0, 1)), -4);
        Due.is("C too great", x.step(12, point(x, 2000, 0), point(x, 0, 0)) >= 0);
        Due.is("C too great", x.step(12, point(x, 2000, 0), point(x, 1, 0)) >= 0);
        Due.is("C too great", x.step(12, point(x, 2000, 0), point(x, 1, 2000)), -4);
    }

    private static void stepCrossings() {
        PlainGeometry x = new PlainGeometry();
        int c = circle(x, 0, 0, 3, 4);
        int up = x.step(1, point(x, 3, 0), point(x, 3, 1));
        isThing("upright, first by y", x, x.step(14, up, c), 0, 3, -4, 1);
        isThing("upright, second", x, x.step(15, up, c), 0, 3, 4, 1);
        int slope = x.step(1, point(x, -5, 0), point(x, 4, 3));
        isThing("slope, first by x", x, x.step(14, slope, c), 0, -5, 0, 1);
        isThing("slope, second", x, x.step(15, slope, c), 0, 4, 3, 1);
        int fall = x.step(1, point(x, -3, 4), point(x, 4, -3));
        isThing("fall, first by x", x, x.step(14, fall, c), 0, -3, 4, 1);
        isThing("fall, second", x, x.step(15, fall, c), 0, 4, -3, 1);
        int touch = x.step(9, point(x, 3, 4), c);
        isThing("touching, first", x, x.step(14, touch, c), 0, 3, 4, 1);
        isThing("touching, second", x, x.step(15, touch, c), 0, 3, 4, 1);
        Due.is("none", x.step(14, x.step(1, point(x, 6, 0), point(x, 6, 1)), c), -3);
        Due.is("no fractions", x.step(15, x.step(1, point(x, 1, 0), point(x, 1, 1)), c), -3);
        int d = circle(x, 6, 0, 3, 4);
        isThing("circles, first", x, x.step(16, c, d), 0, 3, -4, 1);
        isThing("circles, second", x, x.step(17, c, d), 0, 3, 4, 1);
        isThing("circles back, first", x, x.step(16, d, c), 0, 3, -4, 1);
        int e = circle(x, 8, 0, 5, 0);
        isThing("circles touch, first", x, x.step(16, c, e), 0, 5, 0, 1);
        isThing("circles touch, second", x, x.step(17, c, e), 0, 5, 0, 1);
        Due.is("circles apart", x.step(16, e, circle(x, 0, 0, 1, 0)), -3);
        Due.is("the same middle", x.step(17, c, circle(x, 0, 0, 1, 0)), -3);
        Due.is("circles, no fractions", x.step(16, c, circle(x, 1, 0, 6, 0)), -3);
        equalPowersNotSmall();
    }

    /** The line of equal powers has numbers beyond 2^20; the places are SMALL. */
    private static void equalPowersNotSmall() {
        PlainGeometry x = new PlainGeometry();
        int p = point(x, 1030, 1);
        int a = x.step(13, p, point(x, -999, 1031));
        int b = x.step(12, x.step(0, number(x, 1061, 2), number(x, 3061, 2)), p);
        isThing("b", x, b, 2, 1, -1061, -3061, 34990);
        Due.is("not SMALL", x.step(11, a, b), -4);
        isThing("first", x, x.step(16, a, b), 0, -999, 1031, 1);
        isThing("second", x, x.step(17, b, a), 0, 1030, 1, 1);
    }

    private static void stepTangents() {
        PlainGeometry x = new PlainGeometry();
        int c = circle(x, 0, 0, 5, 0);
        isThing("from 7, 1, first", x, x.step(18, point(x, 7, 1), c), 1, -4, 3, 25);
        isThing("from 7, 1, second", x, x.step(19, point(x, 7, 1), c), 1, -3, -4, 25);
        isThing("on c, first", x, x.step(18, point(x, 3, 4), c), 1, -3, -4, 25);
        isThing("on c, second", x, x.step(19, point(x, 3, 4), c), 1, -3, -4, 25);
        Due.is("within", x.step(18, point(x, 3, 3), c), -3);
        Due.is("the middle", x.step(19, point(x, 0, 0), c), -3);
        Due.is("no fractions", x.step(18, point(x, 6, 0), c), -3);
        int corner = point(x, 5, 5);
        isThing("from 5, 5, first", x, x.step(18, corner, c), 1, -1, 0, 5);
        isThing("from 5, 5, second", x, x.step(19, corner, c), 1, 0, -1, 5);
        int d = circle(x, 0, 5, 0, 0);
        isThing("through 0, 0", x, x.step(18, point(x, 10, 0), d), 1, -4, -3, 40);
        isThing("the axis", x, x.step(19, point(x, 10, 0), d), 1, 0, 1, 0);
    }

    private static void stepWrong() {
        PlainGeometry x = new PlainGeometry();
        int n = number(x, 1, 1);
        int p = point(x, 0, 0);
        int q = point(x, 3, 1);
        int l = x.step(1, p, q);
        int c = x.step(12, p, q);
        int[] things = {p, l, c};
        String first = "nplpppppppl" + "cppllccpp";
        String second = "nplpllllccc" + "cppcccccc";
        int made = x.count(1);
        for (int kind = 1; kind < 20; kind++) {
            for (int i = 0; i < 3; i++) {
                if ("plc".charAt(i) != first.charAt(kind)) {
                    Due.is("a of kind " + kind, x.step(kind, things[i], things["plc".indexOf(second.charAt(kind))]), -1);
                }
                if ("plc".charAt(i) != second.charAt(kind)) {
                    Due.is("b of kind " + kind, x.step(kind, things["plc".indexOf(first.charAt(kind))], things[i]), -1);
                }
            }
            Due.is("unknown a of " + kind, x.step(kind, made, things["plc".indexOf(second.charAt(kind))]), -1);
            Due.is("unknown b of " + kind, x.step(kind, things["plc".indexOf(first.charAt(kind))], -1), -1);
        }
        Due.is("unknown number", x.step(0, n, x.count(0)), -1);
        Due.is("kind -1", x.step(-1, p, p), -1);
        Due.is("kind 20", x.step(20, p, c), -1);
        Due.is("kind far", x.step(HUGE, p, c), -1);
        Due.is("kind least", x.step(TINY, p, c), -1);
        Due.is("nothing made", x.count(1), made);
    }

    // ---- THREE

    private static void three() {
        PlainGeometry x = new PlainGeometry();
        int a = point(x, 0, 0);
        int b = point(x, 4, 0);
        int c = point(x, 1, 3);
        int on = point(x, 9, 0);
        int far = far(x, 1, 2);
        isThing("through", x, x.three(0, a, b, c), 2, 1, -4, -2, 0);
        isThing("through, turned", x, x.three(0, c, b, a), 2, 1, -4, -2, 0);
        isThing("middle", x, x.three(1, a, b, c), 0, 5, 3, 3);
        isThing("middle on one line", x, x.three(1, a, b, on), 0, 13, 0, 3);
        isThing("heights", x, x.three(2, a, b, c), 0, 1, 1, 1);
        isThing("middle of the circle", x, x.three(3, a, b, c), 0, 2, 1, 1);
        isThing("middles", x, x.three(4, a, b, c), 2, 1, -3, -2, 2);
        isThing("moved", x, x.three(6, a, b, c), 0, 5, 3, 1);
        isThing("moved by nothing", x, x.three(6, b, b, c), 0, 1, 3, 1);
        isThing("turned", x, x.three(7, b, a, c), 0, 1, -3, 1);
        isThing("turned around itself", x, x.three(7, c, far, c), 0, 1, 3, 1);
        isThing("turned, b a line", x, x.three(7, a, x.step(1, a, b), c), 0, -3, 1, 1);
        isThing("stretched", x, x.three(8, b, number(x, -1, 2), c), 0, 11, -3, 2);
        isThing("stretched by 0", x, x.three(8, b, number(x, 0, 1), c), 0, 4, 0, 1);
        for (int kind : new int[] {0, 2, 3, 4}) {
            Due.is("one line " + kind, x.three(kind, a, b, on), -3);
            Due.is("the same " + kind, x.three(kind, a, c, a), -3);
        }
        for (int kind = 0; kind < 7; kind++) {
            Due.is("far a " + kind, x.three(kind, far, b, c), -3);
            Due.is("far b " + kind, x.three(kind, a, far, c), -3);
            Due.is("far c " + kind, x.three(kind, a, b, far), -3);
        }
        Due.is("turned around far", x.three(7, far, a, c), -3);
        Due.is("far turned", x.three(7, a, a, far), -3);
        Due.is("stretched from far", x.three(8, far, 0, c), -3);
        Due.is("far stretched", x.three(8, a, 0, far), -3);
        Due.is("too great", x.three(8, a, number(x, 1 << 20, 1), c), -4);
        threeWrong(x, a, b, c);
    }

    private static void threeWrong(PlainGeometry x, int a, int b, int c) {
        int line = x.step(1, a, b);
        int made = x.count(1);
        for (int kind = 0; kind < 9; kind++) {
            Due.is("a a line " + kind, x.three(kind, line, b, c), -1);
            Due.is("c a line " + kind, x.three(kind, a, b, line), -1);
            Due.is("a unknown " + kind, x.three(kind, made, b, c), -1);
            Due.is("c unknown " + kind, x.three(kind, a, b, made), -1);
            Due.is("b unknown " + kind, x.three(kind, a, kind == 8 ? x.count(0) : made, c), -1);
        }
        Due.is("b a line", x.three(1, a, line, c), -1);
        Due.is("kind -1", x.three(-1, a, b, c), -1);
        Due.is("kind 9", x.three(9, a, b, c), -1);
        Due.is("nothing made", x.count(1), made);
    }

    private static void threeHarmonic() {
        PlainGeometry x = new PlainGeometry();
        int a = point(x, 0, 0);
        int b = point(x, 6, 3);
        isThing("of a third", x, x.three(5, a, b, point(x, 2, 1)), 0, -6, -3, 1);
        isThing("of two thirds", x, x.three(5, a, b, point(x, 4, 2)), 0, 12, 6, 1);
        isThing("back", x, x.three(5, b, a, point(x, 12, 6)), 0, 4, 2, 1);
        isThing("of the middle", x, x.three(5, a, b, x.step(3, a, b)), 0, 2, 1, 0);
        Due.is("a and b the same", x.three(5, a, point(x, 0, 0), b), -3);
        Due.is("not on the line", x.three(5, a, b, point(x, 2, 2)), -3);
        Due.is("c is a", x.three(5, a, b, a), -3);
        Due.is("c is b", x.three(5, a, b, point(x, 6, 3)), -3);
        Due.is("c far", x.three(5, a, b, far(x, 2, 1)), -3);
        int up = point(x, 0, 5);
        isThing("upright", x, x.three(5, a, up, point(x, 0, 1)), 0, 0, -5, 3);
    }

    private static void thing() {
        PlainGeometry x = new PlainGeometry();
        int p = point(x, 2, 3);
        int l = x.step(1, p, point(x, 5, -1));
        int c = x.step(12, p, point(x, 5, -1));
        isThing("p", x, p, 0, 2, 3, 1, 0);
        isThing("l", x, l, 1, -4, -3, 17, 0);
        isThing("c", x, c, 2, 1, -4, -6, -12, 0);
        Due.is("what -1", x.thing(c, -1), 0);
        Due.is("what 5", x.thing(c, 5), 0);
        Due.is("what far", x.thing(c, HUGE), 0);
        Due.is("what least", x.thing(p, TINY), 0);
        Due.is("unknown sort", x.thing(x.count(1), 0), -1);
        Due.is("unknown below", x.thing(-1, 0), -1);
        Due.is("unknown part", x.thing(x.count(1), 1), 0);
    }

    // ---- measure

    private static void measure() {
        PlainGeometry x = new PlainGeometry();
        int p = x.step(0, number(x, 3, 2), number(x, -2, 3));
        int q = point(x, 1, 2);
        int r = point(x, 5, 5);
        int far = far(x, 1, 1);
        int l = x.step(1, q, r);
        int c = x.step(12, q, r);
        int all = allFar(x);
        isNumber("x", x, x.measure(0, p, l, c), 3, 2);
        isNumber("y", x, x.measure(1, p, far, p), -2, 3);
        Due.is("x of far", x.measure(0, far, p, p), -3);
        Due.is("y of far", x.measure(1, far, p, p), -3);
        isNumber("way", x, x.measure(2, q, r, p), 25, 1);
        isNumber("way of fractions", x, x.measure(2, p, q, c), 265, 36);
        isNumber("way to itself", x, x.measure(2, p, p, c), 0, 1);
        Due.is("way to far", x.measure(2, p, far, p), -3);
        Due.is("way from far", x.measure(2, far, p, p), -3);
        isNumber("power", x, x.measure(3, point(x, 9, 2), c, p), 39, 1);
        isNumber("power on it", x, x.measure(3, r, c, p), 0, 1);
        isNumber("power within", x, x.measure(3, q, c, p), -25, 1);
        Due.is("power of far", x.measure(3, far, c, p), -3);
        isNumber("radius", x, x.measure(4, c, p, p), 25, 1);
        isNumber("radius of a half", x, x.measure(4, x.step(13, p, q), p, p), 265, 144);
        isNumber("area", x, x.measure(5, q, r, point(x, 1, 4)), 8, 1);
        isNumber("area to the right", x, x.measure(5, r, q, point(x, 1, 4)), -8, 1);
        Due.is("area with far", x.measure(5, r, q, far), -3);
        Due.is("area from far", x.measure(5, far, q, r), -3);
        isNumber("to the line", x, x.measure(6, point(x, 1, 4), l, c), 64, 25);
        Due.is("far to the line", x.measure(6, far, l, p), -3);
        Due.is("to all far", x.measure(6, q, all, p), -3);
        measureWrong(x, p, l, c);
    }

    private static void measureWrong(PlainGeometry x, int p, int l, int c) {
        int numbers = x.count(0);
        int unknown = x.count(1);
        Due.is("kind -1", x.measure(-1, p, p, p), -1);
        Due.is("kind 7", x.measure(7, p, p, p), -1);
        for (int kind = 0; kind < 7; kind++) {
            Due.is("unknown a " + kind, x.measure(kind, unknown, kind == 3 ? c : p, p), -1);
            Due.is("a a line " + kind, x.measure(kind, l, kind == 3 ? c : kind == 6 ? l : p, p), -1);
        }
        Due.is("unknown c", x.measure(2, p, p, unknown), -1);
        Due.is("unknown b", x.measure(0, p, -1, p), -1);
        Due.is("b a line", x.measure(2, p, l, p), -1);
        Due.is("b a point", x.measure(3, p, p, p), -1);
        Due.is("c a line", x.measure(5, p, p, l), -1);
        Due.is("b of 5 a circle", x.measure(5, p, c, p), -1);
        Due.is("b of 6 a point", x.measure(6, p, p, p), -1);
        Due.is("b of 3 a line", x.measure(3, p, l, p), -1);
        Due.is("nothing made", x.count(0), numbers);
        int a = x.step(0, number(x, 1, 1021), number(x, 0, 1));
        int b = x.step(0, number(x, 1, 1 << 20), number(x, 0, 1));
        Due.is("not SMALL", x.measure(2, a, b, a), -4);
    }

    // ---- holds

    private static void holdsLines() {
        PlainGeometry x = new PlainGeometry();
        int a = point(x, 0, 0);
        int b = point(x, 2, 1);
        int c = point(x, 6, 3);
        int d = point(x, 1, 5);
        int east = far(x, 1, 0);
        int along = far(x, 2, 1);
        int ab = x.step(1, a, b);
        int ad = x.step(1, a, d);
        int bd = x.step(1, b, d);
        int all = allFar(x);
        int parallel = x.step(5, d, ab);
        int square = x.step(6, d, ab);
        Due.is("one line", x.holds(0, a, b, c, -9), 1);
        Due.is("with its far", x.holds(0, a, along, c, 0), 1);
        Due.is("not", x.holds(0, a, b, d, 0), 0);
        Due.is("not with far", x.holds(0, a, b, east, 0), 0);
        Due.is("two the same", x.holds(0, a, a, d, 0), 1);
        Due.is("common", x.holds(1, ab, ad, x.step(1, a, point(x, 9, 9)), 0), 1);
        Due.is("not common", x.holds(1, ab, ad, bd, 0), 0);
        Due.is("two lines the same", x.holds(1, ab, ad, ab, 0), 1);
        Due.is("common far", x.holds(1, ab, parallel, all, 0), 1);
        Due.is("on", x.holds(2, c, ab, -1, -1), 1);
        Due.is("not on", x.holds(2, d, ab, 0, 0), 0);
        Due.is("far on", x.holds(2, along, ab, 0, 0), 1);
        Due.is("far not on", x.holds(2, east, ab, 0, 0), 0);
        Due.is("far on all far", x.holds(2, east, all, 0, 0), 1);
        Due.is("parallel", x.holds(4, ab, parallel, 0, 0), 1);
        Due.is("parallel to itself", x.holds(4, ab, ab, 0, 0), 1);
        Due.is("not parallel", x.holds(4, ab, ad, 0, 0), 0);
        Due.is("all far parallel", x.holds(4, all, ad, 0, 0), 1);
        Due.is("square", x.holds(5, square, ab, 0, 0), 1);
        Due.is("not square", x.holds(5, ab, ad, 0, 0), 0);
        Due.is("all far square", x.holds(5, all, ad, 0, 0), 0);
        Due.is("square to all far", x.holds(5, ad, all, 0, 0), 0);
        Due.is("as far", x.holds(6, a, b, point(x, 4, 0), point(x, 5, 2)), 1);
        Due.is("not as far", x.holds(6, a, b, a, d), 0);
        Due.is("all same", x.holds(6, a, a, d, d), 1);
        Due.is("far", x.holds(6, a, east, a, east), 0);
        Due.is("far last", x.holds(6, a, b, a, along), 0);
        Due.is("left", x.holds(11, a, b, d, 0), 1);
        Due.is("right", x.holds(11, a, d, b, 0), 0);
        Due.is("straight", x.holds(11, a, b, c, 0), 0);
        Due.is("far left", x.holds(11, a, b, far(x, 0, 1), 0), 0);
        Due.is("kind -1", x.holds(-1, a, b, c, d), -1);
        Due.is("kind 15", x.holds(15, a, b, c, d), -1);
        Due.is("unknown", x.holds(0, a, b, x.count(1), 0), -1);
        Due.is("sort", x.holds(4, ab, a, 0, 0), -1);
        Due.is("unknown d", x.holds(6, a, b, c, x.count(1)), -1);
    }

    private static void holdsCircles() {
        PlainGeometry x = new PlainGeometry();
        int c = circle(x, 0, 0, 5, 0);
        int p = point(x, 3, 4);
        int q = point(x, -5, 0);
        int r = point(x, 0, -5);
        int in = point(x, 3, 3);
        int far = far(x, 1, 0);
        int all = allFar(x);
        int tangent = x.step(18, p, c);
        Due.is("on", x.holds(3, p, c, 0, 0), 1);
        Due.is("not on", x.holds(3, in, c, 0, 0), 0);
        Due.is("far not on", x.holds(3, far, c, 0, 0), 0);
        Due.is("one circle", x.holds(7, p, q, r, point(x, 4, -3)), 1);
        Due.is("not one circle", x.holds(7, p, q, r, in), 0);
        Due.is("two the same", x.holds(7, p, q, r, p), 0);
        Due.is("two others the same", x.holds(7, p, p, q, r), 0);
        Due.is("one line", x.holds(7, point(x, 0, 0), point(x, 1, 0), point(x, 2, 0), point(x, 3, 0)), 0);
        Due.is("with far", x.holds(7, p, q, r, far), 0);
        Due.is("touches", x.holds(8, tangent, c, 0, 0), 1);
        Due.is("cuts", x.holds(8, x.step(1, p, q), c, 0, 0), 0);
        Due.is("misses", x.holds(8, x.step(1, point(x, 9, 0), point(x, 9, 1)), c, 0, 0), 0);
        Due.is("all far", x.holds(8, all, c, 0, 0), 0);
        Due.is("touch outside", x.holds(9, c, circle(x, 6, 8, 3, 4), 0, 0), 1);
        Due.is("touch inside", x.holds(9, circle(x, 3, 0, 5, 0), c, 0, 0), 1);
        Due.is("cut", x.holds(9, c, circle(x, 6, 0, 3, 4), 0, 0), 0);
        Due.is("apart", x.holds(9, c, circle(x, 9, 9, 9, 8), 0, 0), 0);
        Due.is("the same", x.holds(9, c, c, 0, 0), 0);
        Due.is("one middle", x.holds(9, c, circle(x, 0, 0, 1, 0), 0, 0), 0);
        Due.is("square", x.holds(10, c, circle(x, 13, 0, 1, 0), 0, 0), 1);
        Due.is("not square", x.holds(10, c, circle(x, 6, 0, 3, 4), 0, 0), 0);
        Due.is("within", x.holds(12, in, c, 0, 0), 1);
        Due.is("on is not within", x.holds(12, p, c, 0, 0), 0);
        Due.is("outside", x.holds(12, point(x, 4, 4), c, 0, 0), 0);
        Due.is("far is not within", x.holds(12, far, c, 0, 0), 0);
        int polar = x.step(9, point(x, 7, 1), c);
        int through = x.step(1, point(x, 7, 1), in);
        Due.is("pole on", x.holds(13, polar, through, c, 0), 1);
        Due.is("and back", x.holds(13, through, polar, c, 0), 1);
        Due.is("pole not on", x.holds(13, polar, x.step(1, p, q), c, 0), 0);
        Due.is("own pole", x.holds(13, tangent, tangent, c, 0), 1);
        Due.is("far pole", x.holds(13, x.step(1, point(x, 0, 0), far), all, c, 0), 1);
        Due.is("b no circle", x.holds(13, polar, c, through, 0), -1);
        Due.is("a no circle", x.holds(9, p, c, 0, 0), -1);
    }

    private static void holdsCrossRatio() {
        PlainGeometry x = new PlainGeometry();
        int a = point(x, 0, 0);
        int b = point(x, 6, 3);
        int c = point(x, 2, 1);
        int d = x.three(5, a, b, c);
        int middle = x.step(3, a, b);
        int along = far(x, 2, 1);
        Due.is("-1", x.holds(14, a, b, c, d), 1);
        Due.is("back", x.holds(14, b, a, c, d), 1);
        Due.is("pairs swapped", x.holds(14, c, d, a, b), 1);
        Due.is("pairs mixed", x.holds(14, a, c, b, d), 0);
        Due.is("middle and far", x.holds(14, a, b, middle, along), 1);
        Due.is("far first", x.holds(14, along, middle, a, b), 1);
        Due.is("not", x.holds(14, a, b, c, middle), 0);
        Due.is("two the same", x.holds(14, a, b, a, a), 0);
        Due.is("not of one line", x.holds(14, a, b, middle, far(x, 1, 1)), 0);
        int east = far(x, 1, 0);
        int north = far(x, 0, 1);
        Due.is("all far", x.holds(14, east, north, far(x, 1, 1), far(x, -1, 1)), 1);
        Due.is("all far, not", x.holds(14, east, north, far(x, 1, 1), far(x, -2, 1)), 0);
        Due.is("a line", x.holds(14, a, b, c, x.step(1, a, b)), -1);
    }

    // ---- POLYGONS

    private static int shape(PlainGeometry x, int... places) {
        int p = x.polygon();
        for (int i = 0; i + 1 < places.length; i += 2) {
            Due.is("corner", x.corner(p, places[i], places[i + 1]), i / 2 + 1);
        }
        return p;
    }

    private static void polygonAndCorner() {
        PlainGeometry x = new PlainGeometry();
        Due.is("unknown", x.corner(0, 0, 0), -1);
        for (int i = 0; i < 12; i++) {
            Due.is("polygon", x.polygon(), i);
        }
        Due.is("no room", x.polygon(), -4);
        Due.is("still 12", x.count(2), 12);
        Due.is("unknown 12", x.corner(12, 0, 0), -1);
        Due.is("unknown before range", x.corner(-1, 5000, 0), -1);
        Due.is("x", x.corner(3, 1001, 0), -2);
        Due.is("x below", x.corner(3, -1001, 0), -2);
        Due.is("y", x.corner(3, 0, 1001), -2);
        Due.is("y below", x.corner(3, 0, TINY), -2);
        for (int i = 0; i < 12; i++) {
            Due.is("corner", x.corner(3, i % 2 == 0 ? 1000 : -1000, i), i + 1);
        }
        Due.is("twelve", x.corner(3, 0, 0), -4);
        Due.is("range before twelve", x.corner(3, 0, -1001), -2);
        Due.is("corners", x.polygonOf(3, 0), 12);
        Due.is("corners of another", x.polygonOf(4, 0), 0);
    }

    private static void tells(int[] places, long... due) {
        PlainGeometry x = new PlainGeometry();
        shape(x, 9, 9, 8, 8, 3, 1);
        int p = shape(x, places);
        for (int what = 0; what < due.length; what++) {
            Due.is(java.util.Arrays.toString(places) + " what " + what, x.polygonOf(p, what), due[what]);
        }
        Due.is("what -1", x.polygonOf(p, -1), -2);
        Due.is("what 9", x.polygonOf(p, 9), -2);
        Due.is("unknown", x.polygonOf(2, 0), -1);
        Due.is("unknown before what", x.polygonOf(-1, 9), -1);
    }

    private static void polygonOf() {
        tells(new int[] {}, 0, 0, 0, 0, 0, -3, -3, -3, 0);
        tells(new int[] {3, 3}, 1, 0, 0, 1, 0, -3, -3, -3, 0);
        tells(new int[] {3, 3, 3, 3}, 2, 0, 0, 1, 0, -3, -3, -3, 0);
        tells(new int[] {0, 0, 3, 4}, 2, 0, 0, 2, 0, -3, -3, -3, 25);
        tells(new int[] {0, 0, 4, 4, 2, 2}, 3, 0, 0, 2, 0, -3, -3, -3, 32);
        tells(new int[] {0, 0, 5, 0, 0, 5}, 3, 1, 25, 3, 1, 6, 15, 1, 50);
        tells(new int[] {0, 0, 0, 5, 5, 0}, 3, 1, -25, 3, 1, 6, 15, 1, 50);
        tells(new int[] {-1000, -1000, 1000, -1000, 1000, 1000, -1000, 1000},
                4, 1, 8000000, 4, 1, 1999 * 1999, 8000, 2, 8000000);
        // a dart
        tells(new int[] {0, 0, 4, 0, 1, 1, 0, 4}, 4, 1, 8, 3, 0, 0, 10, 1, 32);
        // a corner at the place of another
        tells(new int[] {0, 0, 4, 0, 4, 4, 0, 0}, 4, 0, 16, 3, 0, -3, -3, -3, 32);
        // a corner on another side
        tells(new int[] {0, 0, 4, 0, 4, 4, 2, 0, 0, 4}, 5, 0, 16, 4, 0, -3, -3, -3, 32);
        // sides over one another, neighbours and others
        tells(new int[] {0, 0, 4, 0, 2, 0, 2, 4}, 4, 0, 8, 3, 0, -3, -3, -3, 20);
        tells(new int[] {0, 0, 6, 0, 6, 2, 4, 0, 2, 0, 0, 2}, 6, 0, 8, 4, 0, -3, -3, -3, 40);
        // a cross
        tells(new int[] {0, 0, 4, 4, 4, 0, 0, 4}, 4, 0, 0, 4, 0, -3, -3, -3, 32);
        // corners on sides
        tells(new int[] {0, 0, 2, 0, 4, 0, 4, 4, 0, 4}, 5, 1, 32, 4, 1, 9, 16, 3, 32);
    }

    private static void ways(long due, int... places) {
        PlainGeometry x = new PlainGeometry();
        Due.is("ways of " + java.util.Arrays.toString(places), x.polygonOf(shape(x, places), 7), due);
    }

    private static void triangulations() {
        ways(5, 0, 0, 4, -1, 6, 3, 3, 6, -1, 3);
        ways(14, 0, 0, 2, 0, 3, 1, 3, 3, 1, 3, 0, 2);
        // a parabola and twelve corners: all of 10 triangles
        ways(16796, 0, 0, 1, 1, 2, 4, 3, 9, 4, 16, 5, 25, 6, 36, 7, 49, 8, 64, 9, 81, 10, 100, 11, 121);
        tells(new int[] {0, 0, 1, 1, 2, 4, 3, 9, 4, 16, 5, 25, 6, 36, 7, 49, 8, 64, 9, 81, 10, 100, 11, 121},
                12, 1, 440, 12, 1, 210, 22, 16796, 14762);
        ways(1, 0, 0, 1, 0, 2, 0, 3, 0, 4, 0, 2, 3);
        // an L, a comb, an arrow
        ways(4, 0, 0, 6, 0, 6, 1, 1, 1, 1, 5, 0, 5);
        ways(2, 0, 0, 8, 0, 8, 4, 6, 1, 4, 4, 2, 1, 0, 4);
        ways(3, 0, 0, 2, 1, 4, 0, 2, 9, 1, 5);
        // a diagonal with a corner on it is none
        ways(5, 0, 0, 2, 2, 4, 0, 4, 4, 2, 6, 0, 4);
    }

    private static void place() {
        PlainGeometry x = new PlainGeometry();
        int dart = shape(x, 0, 0, 4, 0, 1, 1, 0, 4);
        int cross = shape(x, 0, 0, 4, 4, 4, 0, 0, 4);
        int half = number(x, 1, 2);
        int[][] due = {{0, 0, 1}, {4, 0, 1}, {2, 0, 1}, {1, 1, 1}, {0, 3, 1}, {2, 1, 0}, {5, 0, 0},
            {-1, 0, 0}, {0, 5, 0}, {1, 0, 1}, {-3, 1, 0}, {2, 2, 0}, {0, -1, 0}};
        for (int[] row : due) {
            Due.is("place " + row[0] + ", " + row[1], x.place(dart, point(x, row[0], row[1])), row[2]);
        }
        Due.is("1/2, 1/2", x.place(dart, x.step(0, half, half)), 2);
        Due.is("5/2, 1/2", x.place(dart, x.step(0, number(x, 5, 2), half)), 1);
        Due.is("5/2, 2/5", x.place(dart, x.step(0, number(x, 5, 2), number(x, 2, 5))), 2);
        Due.is("5/2, 3/5", x.place(dart, x.step(0, number(x, 5, 2), number(x, 3, 5))), 0);
        int far = far(x, 1, 0);
        Due.is("far", x.place(dart, far), -3);
        Due.is("not simple", x.place(cross, 0), -3);
        Due.is("unknown polygon", x.place(2, 0), -1);
        Due.is("unknown thing", x.place(0, x.count(1)), -1);
        Due.is("a line", x.place(0, x.step(1, 0, 1)), -1);
        Due.is("no corners", x.place(x.polygon(), 0), -3);
    }

    private static void around() {
        PlainGeometry x = new PlainGeometry();
        int p = shape(x, 4, 4, 2, 2, 0, 0, 4, 0, 0, 4, 2, 0, 0, 2, 0, 0);
        int[][] due = {{0, 0}, {4, 0}, {4, 4}, {0, 4}};
        for (int i = 0; i < 4; i++) {
            Due.is("x " + i, x.around(p, i, 0), due[i][0]);
            Due.is("y " + i, x.around(p, i, 1), due[i][1]);
        }
        Due.is("no corner 4", x.around(p, 4, 0), -2);
        Due.is("no corner -1", x.around(p, -1, 0), -2);
        Due.is("what 2", x.around(p, 0, 2), -2);
        Due.is("what -1", x.around(p, 0, -1), -2);
        Due.is("unknown", x.around(1, 0, 0), -1);
        int line = shape(x, 1, 5, 1, -5, 1, 0);
        Due.is("least by y", x.around(line, 0, 1), -5);
        Due.is("other end", x.around(line, 1, 1), 5);
        Due.is("two ends", x.around(line, 2, 1), -2);
        Due.is("none", x.around(x.polygon(), 0, 0), -2);
        int one = shape(x, -7, 3, -7, 3);
        Due.is("one", x.around(one, 0, 0), -7);
        Due.is("one alone", x.around(one, 1, 0), -2);
        int twelve = x.polygon();
        for (int i = 0; i < 12; i++) {
            x.corner(twelve, 5 * i % 12, (5 * i % 12) * (5 * i % 12));
        }
        for (int i = 0; i < 12; i++) {
            Due.is("of twelve", x.around(twelve, i, 1), i * i);
        }
        Due.is("no thirteenth", x.around(twelve, 12, 1), -2);
    }

    // ---- POLYNOMIALS

    private static void term() {
        PlainGeometry x = new PlainGeometry();
        Due.is("first", x.term(7, PlainGeometry.NONE), 0);
        Due.is("x", x.term(-3, 0), 1);
        Due.is("y", x.term(1 << 26, 1), 2);
        Due.is("z", x.term(-(1 << 26), 2), 3);
        Due.is("nothing", x.term(0, 2), 4);
        Due.is("7", x.coefficient(0, 0, 0, 0), 7);
        Due.is("-3 x", x.coefficient(1, 1, 0, 0), -3);
        Due.is("no 1", x.coefficient(1, 0, 0, 0), 0);
        Due.is("2^26 y", x.coefficient(2, 0, 1, 0), 1 << 26);
        Due.is("-2^26 z", x.coefficient(3, 0, 0, 1), -(1 << 26));
        Due.is("too great", x.term((1 << 26) + 1, 0), -4);
        Due.is("too low", x.term(-(1 << 26) - 1, 0), -4);
        Due.is("least long", x.term(Long.MIN_VALUE, 0), -4);
        Due.is("unknown 3", x.term(1, 3), -2);
        Due.is("unknown -2", x.term(1, -2), -2);
        Due.is("unknown before size", x.term(Long.MAX_VALUE, 3), -2);
        Due.is("five", x.count(3), 5);
    }

    private static void combine() {
        PlainGeometry x = new PlainGeometry();
        int a = x.combine(0, x.term(2, 0), x.term(3, 1));
        int b = x.combine(1, x.term(1, 0), x.term(5, -1));
        Due.is("2 x", x.coefficient(a, 1, 0, 0), 2);
        Due.is("3 y", x.coefficient(a, 0, 1, 0), 3);
        Due.is("- 5", x.coefficient(b, 0, 0, 0), -5);
        int product = x.combine(2, a, b);
        Due.is("2 x x", x.coefficient(product, 2, 0, 0), 2);
        Due.is("- 10 x", x.coefficient(product, 1, 0, 0), -10);
        Due.is("3 x y", x.coefficient(product, 1, 1, 0), 3);
        Due.is("- 15 y", x.coefficient(product, 0, 1, 0), -15);
        int derived = x.combine(4, product, a);
        Due.is("4 x", x.coefficient(derived, 1, 0, 0), 4);
        Due.is("- 10", x.coefficient(derived, 0, 0, 0), -10);
        Due.is("3 y", x.coefficient(derived, 0, 1, 0), 3);
        Due.is("no y left", x.coefficient(derived, 1, 1, 0), 0);
        int u = x.term(1, 0);
        int v = x.term(1, 1);
        int four = x.combine(2, x.combine(2, u, u), x.combine(2, v, v));
        int ten = x.combine(2, x.combine(2, four, four), x.combine(2, u, v));
        Due.is("x^5 y^5", x.coefficient(ten, 5, 5, 0), 1);
        Due.is("5 x^4 y^5", x.coefficient(x.combine(4, ten, ten), 4, 5, 0), 5);
        Due.is("no x^5 y^4", x.coefficient(ten, 5, 4, 0) + x.coefficient(ten, 5, 4, 1), 0);
        int cube = x.combine(2, u, x.combine(2, u, u));
        int ninth = x.combine(2, cube, x.combine(2, cube, cube));
        int tenth = x.combine(2, ninth, x.term(-6, 0));
        Due.is("-6 x^10", x.coefficient(tenth, 10, 0, 0), -6);
        Due.is("-60 x^9", x.coefficient(x.combine(4, tenth, u), 9, 0, 0), -60);
        int great = x.term(1 << 26, 0);
        Due.is("sum too great", x.combine(0, great, x.term(1, 0)), -4);
        Due.is("difference too low", x.combine(1, x.term(-1, 0), great), -4);
        int z3 = x.combine(2, x.term(1, 2), x.combine(2, x.term(1, 2), x.term(1, 2)));
        int z9 = x.combine(2, z3, x.combine(2, z3, z3));
        int z10 = x.combine(2, z9, x.term(4, 2));
        Due.is("4 z^10", x.coefficient(z10, 0, 0, 10), 4);
        Due.is("degree 11", x.combine(2, z10, x.term(1, 0)), -4);
        Due.is("z^10 by nothing", x.combine(2, z10, x.term(0, 0)) >= 0);
        Due.is("product too great", x.combine(2, great, x.term(2, 1)), -4);
        int xx = x.combine(2, great, x.term(1, 0));
        Due.is("derivative too great", x.combine(4, xx, a), -4);
        int made = x.count(3);
        Due.is("op -1", x.combine(-1, a, b), -1);
        Due.is("op 5", x.combine(5, a, b), -1);
        Due.is("unknown a", x.combine(0, made, b), -1);
        Due.is("unknown b", x.combine(4, a, -1), -1);
        Due.is("nothing made", x.count(3), made);
    }

    private static void putIn() {
        PlainGeometry x = new PlainGeometry();
        int one = x.term(1, -1);
        int u = x.term(1, 0);
        int v = x.term(1, 1);
        int square = x.combine(0, x.combine(2, u, u), x.combine(2, u, v));
        int in = x.combine(0, v, one);
        int put = x.combine(3, square, in);
        Due.is("2 y y", x.coefficient(put, 0, 2, 0), 2);
        Due.is("3 y", x.coefficient(put, 0, 1, 0), 3);
        Due.is("1", x.coefficient(put, 0, 0, 0), 1);
        Due.is("no x", x.coefficient(put, 1, 1, 0), 0);
        int own = x.combine(3, square, u);
        Due.is("x itself", x.same(own, square), 1);
        Due.is("no first unknown", x.same(x.combine(3, v, square), v), 1);
        int zero = x.term(0, 0);
        Due.is("nothing", x.same(x.combine(3, zero, square), zero), 1);
        Due.is("in nothing", x.same(x.combine(3, square, zero), zero), 1);
        int fourth = x.combine(2, x.combine(2, v, v), x.combine(2, v, v));
        int sixth = x.combine(2, fourth, x.combine(2, v, v));
        Due.is("degree 12", x.combine(3, x.combine(2, u, u), sixth), -4);
        // the greatest power is not made further
        Due.is("degree 6", x.combine(3, u, sixth) >= 0);
        int eighth = x.combine(2, fourth, fourth);
        int great = x.term(1 << 13, 0);
        int greater = x.term(1 << 14, 0);
        int cube = x.combine(2, u, x.combine(2, u, u));
        int small = x.combine(3, x.combine(2, u, u), great);
        Due.is("2^26 x x", x.coefficient(small, 2, 0, 0), 1 << 26);
        Due.is("power too great", x.combine(3, cube, great), -4);
        Due.is("power too great 2", x.combine(3, x.combine(2, u, u), greater), -4);
        Due.is("part of degree 12", x.combine(3, x.combine(2, u, eighth), fourth), -4);
        // x x (y - 1): with x = 2^13 its parts stay within, with a sum between too great it is refused
        int cancels = x.combine(1, x.combine(0, x.term(1 << 26, -1), x.combine(2, x.term(1, 0), one)), x.combine(2, u, u));
        Due.is("sum between too great", x.combine(3, cancels, one), -4);
    }

    private static void coefficientAndSame() {
        PlainGeometry x = new PlainGeometry();
        int a = x.combine(0, x.term(2, 0), x.term(3, 1));
        int b = x.combine(0, x.term(3, 1), x.term(2, 0));
        int c = x.combine(1, a, b);
        Due.is("same", x.same(a, b), 1);
        Due.is("same as itself", x.same(a, a), 1);
        Due.is("not same", x.same(a, c), 0);
        Due.is("nothing", x.same(c, x.term(0, -1)), 1);
        Due.is("unknown a", x.same(-1, a), -1);
        Due.is("unknown b", x.same(a, x.count(3)), -1);
        Due.is("unknown polynomial", x.coefficient(x.count(3), 0, 0, 0), 0);
        Due.is("unknown below", x.coefficient(-1, 0, 0, 0), 0);
        Due.is("i below", x.coefficient(a, -1, 0, 0), 0);
        Due.is("j below", x.coefficient(a, 1, -1, 0), 0);
        Due.is("k below", x.coefficient(a, 1, 0, -1), 0);
        Due.is("degree 11", x.coefficient(a, 4, 4, 3), 0);
        Due.is("far", x.coefficient(a, HUGE, HUGE, HUGE), 0);
        Due.is("far j", x.coefficient(a, 1, HUGE, 1), 0);
        Due.is("far k", x.coefficient(a, 1, 0, HUGE), 0);
        Due.is("least", x.coefficient(a, TINY, TINY, TINY), 0);
    }

    private static void value() {
        PlainGeometry x = new PlainGeometry();
        int half = number(x, 1, 2);
        int three = number(x, -3, 1);
        int zero = number(x, 0, 1);
        int u = x.term(1, 0);
        int v = x.term(1, 1);
        int w = x.term(1, 2);
        int a = x.combine(0, x.combine(2, u, x.combine(2, u, v)), x.combine(2, x.term(5, 2), w));
        isNumber("x x y + 5 z z", x, x.value(a, half, three, three), 177, 4);
        isNumber("others", x, x.value(a, three, half, zero), 9, 2);
        isNumber("nothing", x, x.value(x.term(0, 0), half, half, half), 0, 1);
        isNumber("a number alone", x, x.value(x.term(9, -1), half, half, half), 9, 1);
        int big = number(x, 1 << 16, 1);
        Due.is("product too great", x.value(x.combine(2, u, u), big, zero, zero), -4);
        // from the lowest exponents on, and times x before times y
        Due.is("x y y too great between", x.value(x.combine(2, u, x.combine(2, v, v)), number(x, 1 << 30, 1), number(x, 2, 1), zero), -4);
        isNumber("x y y within", x, x.value(x.combine(2, u, x.combine(2, v, v)), number(x, 1 << 30, 1), number(x, 1, 1 << 15), zero), 1, 1);
        isNumber("0 comes first", x, x.value(x.combine(2, u, x.combine(2, v, v)), zero, number(x, 1 << 30, 1), zero), 0, 1);
        Due.is("y y before z 0", x.value(x.combine(2, v, x.combine(2, v, w)), zero, number(x, 1 << 30, 1), zero), -4);
        Due.is("sum too great", x.value(x.combine(0, u, v), number(x, 1 << 30, 1), number(x, 1, 1), zero), -4);
        int sum = x.combine(0, u, x.combine(0, v, w));
        int great = number(x, 1 << 30, 1);
        int less = number(x, -(1 << 30), 1);
        isNumber("z, then y, then x", x, x.value(sum, great, less, great), 1 << 30, 1);
        Due.is("z and y too great", x.value(sum, less, great, great), -4);
        isNumber("x last", x, x.value(sum, great, great, less), 1 << 30, 1);
        Due.is("unknown polynomial", x.value(x.count(3), half, half, half), -1);
        Due.is("unknown x", x.value(a, x.count(0), half, half), -1);
        Due.is("unknown y", x.value(a, half, -1, half), -1);
        Due.is("unknown z", x.value(a, half, half, HUGE), -1);
    }

    // ---- BOARDS, CELLS

    private static void tile() {
        PlainGeometry x = new PlainGeometry();
        Due.is("8 8", x.tile(8, 8, 0), 12988816);
        Due.is("1 1", x.tile(1, 1, 0), 0);
        Due.is("1 1 without all", x.tile(1, 1, 1), 1);
        Due.is("8 8 without all", x.tile(8, 8, -1L), 1);
        Due.is("2 5", x.tile(2, 5, 0), 8);
        Due.is("5 2", x.tile(5, 2, 0), 8);
        Due.is("3 4", x.tile(3, 4, 0), 11);
        Due.is("3 3", x.tile(3, 3, 0), 0);
        Due.is("3 3 without the middle", x.tile(3, 3, 1L << 9), 2);
        Due.is("3 3 without an edge", x.tile(3, 3, 1L << 8), 0);
        Due.is("8 8 without two corners", x.tile(8, 8, 1L | 1L << 63), 0);
        Due.is("bits outside", x.tile(2, 3, 1L << 2 | 1L << 24 | 1L << 63), 3);
        Due.is("3 wide, x is the way of the bits", x.tile(3, 1, 1L << 2), 1);
        Due.is("3 long, y is the way of the bytes", x.tile(1, 3, 1L << 16), 1);
        Due.is("and 2 is outside", x.tile(1, 3, 1L << 2), 0);
        Due.is("w 0", x.tile(0, 3, 0), -2);
        Due.is("w 9", x.tile(9, 3, 0), -2);
        Due.is("l 0", x.tile(3, 0, 0), -2);
        Due.is("l 9", x.tile(3, 9, 0), -2);
        Due.is("least", x.tile(TINY, HUGE, -1), -2);
    }

    private static void rows() {
        PlainGeometry x = new PlainGeometry();
        long[] due = {1, 1, 2, 3, 4, 6, 9, 13};
        for (int l = 1; l <= 8; l++) {
            Due.is("3 by " + l, x.rows(3, l, 0), due[l - 1]);
            Due.is(l + " by 3", x.rows(l, 3, 0), due[l - 1]);
        }
        Due.is("8 8", x.rows(8, 8, 0), 0);
        Due.is("6 6", x.rows(6, 6, 0), 64);
        Due.is("6 7", x.rows(6, 7, 0), 155);
        Due.is("8 6", x.rows(8, 6, 0), 321);
        Due.is("8 8 without 2, 2", x.rows(8, 8, 1L << 18), 356);
        Due.is("8 8 without 0, 0", x.rows(8, 8, 1), 0);
        Due.is("all gone", x.rows(7, 5, -1L), 1);
        Due.is("3 1 gone", x.rows(3, 1, 1), 0);
        Due.is("tile after rows", x.tile(8, 8, 0), 12988816);
        Due.is("w 0", x.rows(0, 3, 0), -2);
        Due.is("w 9", x.rows(9, 3, 0), -2);
        Due.is("l 0", x.rows(3, 0, 0), -2);
        Due.is("l 9", x.rows(3, 9, 0), -2);
    }

    private static void list() {
        PlainGeometry x = new PlainGeometry();
        int[][] due = {{1, 2, 6, 19, 63, 216, 760, 2725}, {1, 1, 2, 7, 18, 60, 196, 704},
            {1, 1, 2, 5, 12, 35, 108, 369}, {0, 0, 0, 0, 0, 0, 4, 41}};
        for (int turn = 0; turn < 2; turn++) {
            for (int kind = 0; kind < 4; kind++) {
                for (int n = 1; n <= 8; n++) {
                    Due.is("list " + kind + " of " + n, x.list(kind, n), due[kind][n - 1]);
                }
            }
        }
        Due.is("kind -1", x.list(-1, 3), -1);
        Due.is("kind 4", x.list(4, 3), -1);
        Due.is("kind before n", x.list(4, 9), -1);
        Due.is("n 0", x.list(0, 0), -2);
        Due.is("n 9", x.list(3, 9), -2);
    }

    private static void count() {
        PlainGeometry x = new PlainGeometry();
        number(x, 1, 2);
        number(x, 1, 2);
        number(x, 1, 1);
        x.step(0, 0, 1);
        x.step(0, 0, 2);
        x.polygon();
        x.term(1, 0);
        x.combine(0, 0, 0);
        x.combine(0, 0, 0);
        x.combine(0, 0, 0);
        Due.is("NUMBERS", x.count(0), 3);
        Due.is("THINGS", x.count(1), 2);
        Due.is("POLYGONS", x.count(2), 1);
        Due.is("POLYNOMIALS", x.count(3), 4);
        Due.is("what 4", x.count(4), -2);
        Due.is("what -1", x.count(-1), -2);
        Due.is("what far", x.count(HUGE), -2);
    }

    private static void fullRooms() {
        PlainGeometry x = new PlainGeometry();
        for (int i = 0; i < 200; i++) {
            Due.is("number", x.fraction(i, 7), i);
        }
        Due.is("full", x.fraction(1, 1), -4);
        Due.is("full, down 0", throwsOf(x, 1, 0), 1);
        Due.is("full sum", x.apply(0, 1, 2), -4);
        Due.is("full, -3 before", x.apply(3, 1, 0), -3);
        Due.is("full, -1 before", x.apply(3, 1, 200), -1);
        for (int i = 0; i < 100; i++) {
            Due.is("thing", x.step(0, 7 * (i / 10), 7 * (i % 10)), i);
        }
        Due.is("full things", x.step(0, 0, 0), -4);
        Due.is("full three", x.three(1, 0, 1, 2), -4);
        Due.is("full, -3 before", x.step(1, 0, 0), -3);
        Due.is("full, ringless -3", x.three(0, 0, 1, 2), -3);
        Due.is("full, -1 before", x.step(1, 0, 100), -1);
        Due.is("full measure", x.measure(2, 0, 1, 0), -4);
        Due.is("holds goes on", x.holds(0, 0, 1, 2, 0), 1);
        for (int i = 0; i < 60; i++) {
            Due.is("polynomial", x.term(i, i % 4 - 1), i);
        }
        Due.is("full polynomials", x.term(1, 0), -4);
        Due.is("full, -2 before", x.term(1, 5), -2);
        Due.is("full combine", x.combine(0, 0, 1), -4);
        Due.is("full value", x.value(1, 0, 1, 2), -4);
        Due.is("200", x.count(0), 200);
        Due.is("100", x.count(1), 100);
        Due.is("60", x.count(3), 60);
        Due.is("last number", x.numberOf(199, 0), 199);
        Due.is("last polynomial", x.coefficient(59, 0, 1, 0), 59 % 4 == 2 ? 59 : 0);
    }
}
