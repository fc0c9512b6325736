/**
 * "Calls answer -1 ..; -2 ..; -3 as told; -4 no room, or not SMALL; the first that fits, in this
 * order; then nothing changes": calls that are refused for two reasons or more.
 */
final class EdgeOrderTest {
    private static final int GONE = 200;

    public static void main(String[] args) {
        unknownBeforeRange();
        unknownBeforeNothing();
        unknownBeforeRoom();
        rangeBeforeNothing();
        rangeBeforeRoom();
        nothingBeforeRoom();
        nothingBeforeSmall();
        roomAndSmall();
        exceptionFirst();
        allAtOnce();
        madeAfterRefused();
        Due.end();
    }

    /** The stock, and then every room full. */
    private static long full(PlainGeometry x) {
        Stock.make(x);
        for (int i = Stock.NUMBERS; i < 200; i++) {
            x.fraction(i, 7);
        }
        return fullBesides(x);
    }

    private static long fullBesides(PlainGeometry x) {
        for (int i = Stock.THINGS; i < 100; i++) {
            x.step(0, Stock.FOUR, Stock.TWO);
        }
        for (int i = Stock.POLYGONS; i < 12; i++) {
            x.polygon();
        }
        return 0;
    }

    /** Of a full object: it answers as due, and the counts are the same. */
    private static void fullRefuses(String told, Refused.Call call, long due) {
        PlainGeometry x = new PlainGeometry();
        full(x);
        Due.is(told, call.of(x), due);
        Due.is(told + ": NUMBERS", x.count(0), 200);
        Due.is(told + ": THINGS", x.count(1), 100);
        Due.is(told + ": POLYGONS", x.count(2), 12);
        Due.is(told + ": POLYNOMIALS", x.count(3), Stock.POLYNOMIALS);
        Due.is(told + ": the last NUMBER", x.numberOf(199, 0), 199);
        Due.is(told + ": the last THING", x.thing(99, 1), 4);
    }

    private static void unknownBeforeRange() {
        Due.by("-1 before -2");
        Stock.refuses("corner", x -> x.corner(GONE, 1001, 0), -1);
        Stock.refuses("corner, the next", x -> x.corner(Stock.POLYGONS, 0, -1001), -1);
        Stock.refuses("polygonOf", x -> x.polygonOf(GONE, 9), -1);
        Stock.refuses("polygonOf, the next", x -> x.polygonOf(Stock.POLYGONS, -1), -1);
        Stock.refuses("around, i", x -> x.around(GONE, 12, 0), -1);
        Stock.refuses("around, what", x -> x.around(Stock.POLYGONS, 0, 2), -1);
        Stock.refuses("list", x -> x.list(4, 9), -1);
        Stock.refuses("list below", x -> x.list(-1, 0), -1);
    }

    private static void unknownBeforeNothing() {
        Due.by("-1 before -3");
        Stock.refuses("a / 0", x -> x.apply(3, GONE, Stock.ZERO), -1);
        Stock.refuses("no root", x -> x.apply(7, Stock.TWO, GONE), -1);
        Stock.refuses("middle of FAR", x -> x.step(3, Stock.EAST, GONE), -1);
        Stock.refuses("foot of FAR", x -> x.step(4, Stock.EAST, Stock.P), -1);
        Stock.refuses("tangent of FAR", x -> x.step(18, Stock.EAST, Stock.AXIS), -1);
        Stock.refuses("the same", x -> x.step(20, Stock.P, Stock.P), -1);
        Stock.refuses("THREE of FAR", x -> x.three(1, Stock.EAST, Stock.P, GONE), -1);
        Stock.refuses("THREE of FAR and a LINE", x -> x.three(6, Stock.EAST, Stock.P, Stock.AXIS), -1);
        Stock.refuses("turned around FAR", x -> x.three(7, Stock.EAST, GONE, Stock.P), -1);
        Stock.refuses("stretched from FAR", x -> x.three(8, Stock.EAST, GONE, Stock.P), -1);
        Stock.refuses("x of FAR", x -> x.measure(0, Stock.EAST, GONE, Stock.P), -1);
        Stock.refuses("y of FAR", x -> x.measure(1, Stock.EAST, Stock.P, GONE), -1);
        Stock.refuses("way to FAR", x -> x.measure(2, Stock.P, Stock.EAST, GONE), -1);
        Stock.refuses("power of FAR", x -> x.measure(3, Stock.EAST, Stock.RING, GONE), -1);
        Stock.refuses("area with FAR", x -> x.measure(5, Stock.EAST, Stock.P, Stock.AXIS), -1);
        Stock.refuses("to a line from FAR", x -> x.measure(6, Stock.EAST, Stock.AXIS, GONE), -1);
        Stock.refuses("place of FAR", x -> x.place(GONE, Stock.EAST), -1);
        Stock.refuses("place to one not SIMPLE", x -> x.place(Stock.CROSS, GONE), -1);
    }

    private static void unknownBeforeRoom() {
        Due.by("-1 before -4, not SMALL");
        Stock.refuses("sum", x -> x.apply(0, Stock.BIG, GONE), -1);
        Stock.refuses("product", x -> x.apply(2, GONE, Stock.BIG), -1);
        Stock.refuses("POINT", x -> x.step(0, Stock.BIG, GONE), -1);
        Stock.refuses("stretched", x -> x.three(8, Stock.P, Stock.BIG, GONE), -1);
        Stock.refuses("POLYNOMIAL", x -> x.combine(2, Stock.GREAT, GONE), -1);
        Stock.refuses("value", x -> x.value(Stock.GREAT, Stock.BIG, Stock.BIG, GONE), -1);
        Due.by("-1 before -4, no room");
        fullRefuses("sum", x -> x.apply(0, Stock.ONE, GONE), -1);
        fullRefuses("op", x -> x.apply(10, Stock.ONE, Stock.ONE), -1);
        fullRefuses("POINT", x -> x.step(0, GONE, Stock.ONE), -1);
        fullRefuses("LINE", x -> x.step(1, Stock.P, 100), -1);
        fullRefuses("THREE", x -> x.three(1, Stock.P, Stock.Q, Stock.AXIS), -1);
        fullRefuses("measure", x -> x.measure(0, Stock.P, Stock.P, 100), -1);
        fullRefuses("value", x -> x.value(Stock.POLYNOMIALS, Stock.ONE, Stock.ONE, Stock.ONE), -1);
        fullRefuses("corner", x -> x.corner(12, 0, 0), -1);
    }

    private static void rangeBeforeNothing() {
        Due.by("-2 before -3");
        Stock.refuses("polygonOf", x -> x.polygonOf(Stock.CROSS, 9), -2);
        Stock.refuses("polygonOf without corners", x -> x.polygonOf(Stock.NO_CORNERS, -1), -2);
    }

    private static void rangeBeforeRoom() {
        Due.by("-2 before -4");
        Stock.refuses("a thirteenth corner, x", x -> x.corner(Stock.TWELVE, 1001, 0), -2);
        Stock.refuses("a thirteenth corner, y", x -> x.corner(Stock.TWELVE, 0, -1001), -2);
        Stock.refuses("term", x -> x.term((1 << 26) + 1, 3), -2);
        Stock.refuses("term below", x -> x.term(Long.MIN_VALUE, -2), -2);
    }

    private static void nothingBeforeRoom() {
        Due.by("-3 before -4, no room");
        fullRefuses("a / 0", x -> x.apply(3, Stock.ONE, Stock.ZERO), -3);
        fullRefuses("no root", x -> x.apply(7, Stock.TWO, Stock.ZERO), -3);
        fullRefuses("the same", x -> x.step(1, Stock.P, Stock.P), -3);
        fullRefuses("two LINES the same", x -> x.step(2, Stock.AXIS, Stock.AXIS_AGAIN), -3);
        fullRefuses("middle of FAR", x -> x.step(3, Stock.EAST, Stock.P), -3);
        fullRefuses("around the same", x -> x.step(12, Stock.P, Stock.P), -3);
        fullRefuses("none", x -> x.step(14, Stock.ALL_FAR, Stock.RING), -3);
        fullRefuses("the same middle", x -> x.step(16, Stock.RING, Stock.INNER_RING), -3);
        fullRefuses("within", x -> x.step(18, Stock.Q, Stock.RING), -3);
        fullRefuses("on one LINE", x -> x.three(0, Stock.P, Stock.P, Stock.Q), -3);
        fullRefuses("THREE of FAR", x -> x.three(1, Stock.P, Stock.P, Stock.EAST), -3);
        fullRefuses("stretched from FAR", x -> x.three(8, Stock.EAST, Stock.ONE, Stock.P), -3);
        fullRefuses("x of FAR", x -> x.measure(0, Stock.EAST, Stock.P, Stock.P), -3);
        fullRefuses("to all FAR", x -> x.measure(6, Stock.P, Stock.ALL_FAR, Stock.P), -3);
    }

    private static void nothingBeforeSmall() {
        Due.by("-3 before -4, not SMALL");
        Stock.refuses("2^30 / 0", x -> x.apply(3, Stock.BIG, Stock.ZERO), -3);
        Stock.refuses("stretched from FAR", x -> x.three(8, Stock.EAST, Stock.BIG, Stock.P), -3);
        Stock.refuses("FAR stretched", x -> x.three(8, Stock.P, Stock.BIG, Stock.EAST), -3);
    }

    private static void roomAndSmall() {
        Due.by("-4 no room, or not SMALL: both");
        fullRefuses("no room", x -> x.apply(0, Stock.ONE, Stock.ONE), -4);
        fullRefuses("both", x -> x.apply(2, Stock.BIG, Stock.BIG), -4);
        fullRefuses("no room for a POINT", x -> x.step(0, Stock.ONE, Stock.ONE), -4);
        fullRefuses("both for a POINT", x -> x.step(0, Stock.BIG, Stock.ONE), -4);
        fullRefuses("no room for what is measured", x -> x.measure(2, Stock.P, Stock.Q, Stock.P), -4);
        fullRefuses("no room for a value", x -> x.value(Stock.X, Stock.ONE, Stock.ONE, Stock.ONE), -4);
        fullRefuses("no room for a POLYGON", x -> x.polygon(), -4);
        fullRefuses("no room for a fraction", x -> x.fraction(1, 1), -4);
        fullRefuses("both for a fraction", x -> x.fraction(1, Long.MIN_VALUE), -4);
    }

    private static void exceptionFirst() {
        Due.by("2 ArithmeticException: down is 0, before -4");
        fullRefuses("no room", x -> Make.throwsOf(x, 1, 0), 1);
        fullRefuses("no room, and -2^63", x -> Make.throwsOf(x, Long.MIN_VALUE, 0), 1);
        Stock.refuses("-2^63", x -> Make.throwsOf(x, Long.MIN_VALUE, 0), 1);
        Stock.refuses("not SMALL", x -> Make.throwsOf(x, Long.MAX_VALUE, 0), 1);
    }

    private static void allAtOnce() {
        Due.by("the first that fits, of three and four reasons");
        fullRefuses("-1, -3 and -4", x -> x.apply(3, GONE, Stock.ZERO), -1);
        fullRefuses("-1, -3 and -4 of a step", x -> x.step(3, Stock.EAST, 100), -1);
        fullRefuses("-1, -3 and -4 of THREE", x -> x.three(8, Stock.EAST, GONE, Stock.P), -1);
        fullRefuses("-1, -3 and -4 of measure", x -> x.measure(0, Stock.EAST, 100, Stock.P), -1);
        fullRefuses("-1, -2 and -4 of corner", x -> x.corner(-1, 1001, 1001), -1);
        Stock.refuses("-1 and -3 of place", x -> x.place(GONE, GONE), -1);
        Stock.refuses("-1, kind and THINGS", x -> x.step(-1, GONE, GONE), -1);
    }

    private static void madeAfterRefused() {
        Due.by("then nothing changes: what is made next has the next number, and is as it would have been");
        PlainGeometry x = Stock.made();
        long refused = 0;
        refused += x.fraction(Long.MIN_VALUE, 1) + x.apply(3, Stock.ONE, Stock.ZERO) + x.apply(2, Stock.BIG, Stock.BIG);
        refused += x.step(1, Stock.P, Stock.P) + x.step(0, Stock.BIG, Stock.ZERO) + x.three(0, Stock.P, Stock.P, Stock.P);
        refused += x.measure(0, Stock.EAST, Stock.P, Stock.P) + x.corner(Stock.TRIANGLE, 1001, 0) + x.corner(Stock.TWELVE, 0, 0);
        refused += x.term(1, 3) + x.combine(0, Stock.GREAT, Stock.GREAT) + x.combine(2, Stock.GREAT, Stock.GREAT);
        refused += x.combine(3, Stock.X, GONE) + x.value(Stock.GREAT, Stock.ONE, Stock.ONE, GONE);
        Due.is("all refused", refused, -4 - 3 - 4 - 3 - 4 - 3 - 3 - 2 - 4 - 2 - 4 - 4 - 1 - 1);
        Due.is("NUMBER", x.apply(9, Stock.FOUR, Stock.TWO), Stock.NUMBERS);
        Make.isNumber("NUMBER", x, Stock.NUMBERS, 2, 1);
        Due.is("THING", x.step(3, Stock.P, Stock.Q), Stock.THINGS);
        Make.isPoint("THING", x, Stock.THINGS, 6, 1, 2);
        Due.is("corner", x.corner(Stock.TRIANGLE, 0, 1), 4);
        Due.is("POLYGON", x.polygon(), Stock.POLYGONS);
        Due.is("POLYNOMIAL", x.combine(1, Stock.GREAT, Stock.X), Stock.POLYNOMIALS);
        Due.is("its 1", x.coefficient(Stock.POLYNOMIALS, 0, 0, 0), 1 << 26);
        Due.is("its x", x.coefficient(Stock.POLYNOMIALS, 1, 0, 0), -1);
        Due.is("its y", x.coefficient(Stock.POLYNOMIALS, 0, 1, 0), 0);
    }
}
