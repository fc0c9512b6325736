/** The edges that the document names of NUMBERS: promises 1 to 6 and 25. */
final class EdgeNumbersTest {
    private static final long SMALL = 1L << 30;
    private static final long LEAST = Long.MIN_VALUE;
    private static final long MOST = Long.MAX_VALUE;
    private static final int[] NO_NUMBERS = {-1, -2, -9, 200, Make.TINY, Make.HUGE};

    public static void main(String[] args) {
        aNewObject();
        lowestTerms();
        small();
        zero();
        room();
        roomByOthers();
        terms();
        fraction();
        reckon();
        lesserAndGreater();
        firstTerm();
        root();
        size();
        between();
        compare();
        numberOf();
        near();
        count();
        lastCalls();
        Due.end();
    }

    private static void aNewObject() {
        Due.by("1 PlainGeometry(): Nothing.");
        PlainGeometry x = new PlainGeometry();
        for (int what = 0; what < 4; what++) {
            Due.is("count " + what, x.count(what), 0);
        }
        Due.is("apply", x.apply(0, 0, 0), -1);
        Due.is("compare", x.compare(0, 0), -9);
        Due.is("numberOf", x.numberOf(0, 0) + x.numberOf(0, 1) + x.numberOf(0, 2) + x.numberOf(0, 3), 0);
        Due.is("near", x.near(0), 0.0);
        Due.is("step of NUMBERS", x.step(0, 0, 0), -1);
        Due.is("step of THINGS", x.step(1, 0, 0), -1);
        Due.is("three", x.three(0, 0, 0, 0), -1);
        Due.is("thing sort", x.thing(0, 0), -1);
        Due.is("thing part", x.thing(0, 1), 0);
        Due.is("measure", x.measure(0, 0, 0, 0), -1);
        Due.is("holds", x.holds(0, 0, 0, 0, 0), -1);
        Due.is("corner", x.corner(0, 0, 0), -1);
        Due.is("polygonOf", x.polygonOf(0, 0), -1);
        Due.is("place", x.place(0, 0), -1);
        Due.is("around", x.around(0, 0, 0), -1);
        Due.is("combine", x.combine(0, 0, 0), -1);
        Due.is("coefficient", x.coefficient(0, 0, 0, 0), 0);
        Due.is("same", x.same(0, 0), -1);
        Due.is("value", x.value(0, 0, 0, 0), -1);
        Due.by("1 PlainGeometry(): Nothing. What one object makes is none of another's");
        x.fraction(3, 1);
        x.step(0, 0, 0);
        x.polygon();
        x.term(1, 0);
        PlainGeometry y = new PlainGeometry();
        for (int what = 0; what < 4; what++) {
            Due.is("count of another " + what, y.count(what), 0);
        }
        Due.is("first of another", y.fraction(5, 1), 0);
        Due.is("n of the one", x.numberOf(0, 0), 3);
        Due.is("n of the other", y.numberOf(0, 0), 5);
    }

    private static void made(long up, long down, long n, long d) {
        PlainGeometry x = new PlainGeometry();
        Due.is(up + " / " + down, x.fraction(up, down), 0);
        Make.isNumber(up + " / " + down, x, 0, n, d);
    }

    private static void notMade(long up, long down) {
        Refused.is(up + " / " + down, x -> x.fraction(2, 3), x -> x.fraction(up, down), -4);
    }

    private static void lowestTerms() {
        Due.by("NUMBERS are fractions n / d in lowest terms");
        made(6, 4, 3, 2);
        made(7, 7, 1, 1);
        made(1L << 62, 1L << 61, 2, 1);
        made(MOST, MOST, 1, 1);
        notMade(MOST, 7);
        made(3 * SMALL, 3 * (SMALL - 1), SMALL, SMALL - 1);
        Due.by("d above 0");
        made(3, -4, -3, 4);
        made(-3, -4, 3, 4);
        made(-3, 4, -3, 4);
        made(MOST, -MOST, -1, 1);
        made(-MOST, -MOST, 1, 1);
    }

    private static void small() {
        Due.by("n and d at most 2^30 in size (SMALL): n");
        made(SMALL, 1, SMALL, 1);
        made(-SMALL, 1, -SMALL, 1);
        notMade(SMALL + 1, 1);
        notMade(-SMALL - 1, 1);
        notMade(SMALL + 1, -1);
        Due.by("n and d at most 2^30 in size (SMALL): d");
        made(1, SMALL, 1, SMALL);
        made(1, -SMALL, -1, SMALL);
        notMade(1, SMALL + 1);
        notMade(1, -SMALL - 1);
        made(SMALL, SMALL - 1, SMALL, SMALL - 1);
        made(SMALL - 1, SMALL, SMALL - 1, SMALL);
        notMade(SMALL, SMALL + 1);
        notMade(SMALL + 1, SMALL);
        Due.by("n / d in lowest terms are SMALL, not what was told");
        made(2 * SMALL, 2, SMALL, 1);
        notMade(2 * SMALL + 2, 2);
        made(2, 2 * SMALL, 1, SMALL);
        notMade(2, 2 * SMALL + 2);
        notMade(MOST, 1);
        notMade(1, MOST);
        notMade(-MOST, 2);
    }

    private static void zero() {
        Due.by("0 is 0 / 1.");
        made(0, 1, 0, 1);
        made(0, 7, 0, 1);
        made(0, -7, 0, 1);
        made(0, MOST, 0, 1);
        made(0, -MOST, 0, 1);
        PlainGeometry x = new PlainGeometry();
        int a = x.fraction(5, 7);
        int b = x.fraction(-5, 7);
        Make.isNumber("a - a", x, x.apply(1, a, a), 0, 1);
        Make.isNumber("a + -a", x, x.apply(0, a, b), 0, 1);
        Make.isNumber("0 a", x, x.apply(2, x.fraction(0, 3), a), 0, 1);
        Make.isNumber("0 / a", x, x.apply(3, x.fraction(0, 3), b), 0, 1);
    }

    private static long fill(PlainGeometry x) {
        for (int i = x.count(0); i < 200; i++) {
            x.fraction(i, 1);
        }
        return 0;
    }

    private static void room() {
        Due.by("they have numbers from 0, 200 at most");
        PlainGeometry x = new PlainGeometry();
        for (int i = 0; i < 200; i++) {
            Due.is("fraction", x.fraction(i, 7), i);
            if (i == 50) {
                Due.is("one not made takes no number", x.fraction(SMALL + 1, 1), -4);
                Due.is("nor one over 0", Make.throwsOf(x, 1, 0), 1);
            }
        }
        Due.is("200", x.count(0), 200);
        Due.is("one more", x.fraction(1, 1), -4);
        Due.is("one more that there is", x.fraction(3, 7), -4);
        Due.is("still 200", x.count(0), 200);
        Due.is("first", x.numberOf(0, 0), 0);
        Due.is("last", x.numberOf(199, 0), 199);
        Due.is("last d", x.numberOf(199, 1), 7);
        Due.is("none behind the last", x.numberOf(200, 1), 0);
        Refused.is("one more", EdgeNumbersTest::fill, y -> y.fraction(1, 2), -4);
    }

    /** The four calls that make NUMBERS fill one room. */
    private static void roomByOthers() {
        Due.by("200 at most, however they are made");
        Refused.Call made = y -> {
            y.fraction(1, 1);
            y.fraction(2, 1);
            y.step(0, 0, 1);
            y.step(0, 1, 0);
            y.term(3, 0);
            return fill(y);
        };
        for (int op = 0; op < 10; op++) {
            int o = op;
            Refused.is("apply " + op, made, y -> y.apply(o, 0, 0), -4);
        }
        for (int kind = 0; kind < 3; kind++) {
            int k = kind;
            Refused.is("measure " + kind, made, y -> y.measure(k, 0, 1, 0), -4);
        }
        Refused.is("value", made, y -> y.value(0, 0, 0, 0), -4);
        PlainGeometry x = new PlainGeometry();
        x.fraction(1, 1);
        x.fraction(2, 1);
        x.step(0, 0, 1);
        x.step(0, 1, 0);
        x.term(3, 0);
        for (int i = 2; i < 197; i++) {
            x.fraction(i, 1);
        }
        Due.is("the 198th", x.apply(0, 0, 1), 197);
        Due.is("the 199th", x.measure(2, 0, 1, 0), 198);
        Due.is("the 200th", x.value(0, 1, 0, 0), 199);
        Due.is("its n", x.numberOf(199, 0), 6);
        Due.is("none behind", x.apply(0, 0, 1), -4);
    }

    private static void termsOf(long up, long down, long... due) {
        PlainGeometry x = new PlainGeometry();
        int a = x.fraction(up, down);
        String told = up + " / " + down;
        Due.is(told + " how many", x.numberOf(a, 2), due.length);
        for (int i = 0; i < due.length; i++) {
            Due.is(told + " TERM " + i, x.numberOf(a, 3 + i), due[i]);
        }
        Due.is(told + " behind the last", x.numberOf(a, 3 + due.length), 0);
    }

    private static void terms() {
        Due.by("THE TERMS of one: the whole number not above it is the first");
        termsOf(7, 2, 3, 2);
        termsOf(-7, 2, -4, 2);
        termsOf(1, 2, 0, 2);
        termsOf(-1, 2, -1, 2);
        termsOf(-1, SMALL, -1, 1, SMALL - 1);
        termsOf(SMALL - 1, SMALL, 0, 1, SMALL - 1);
        Due.by("if something is left, the others are THE TERMS of 1 / what is left");
        termsOf(0, 1, 0);
        termsOf(1, 1, 1);
        termsOf(-1, 1, -1);
        termsOf(SMALL, 1, SMALL);
        termsOf(-SMALL, 1, -SMALL);
        termsOf(1, SMALL, 0, SMALL);
        termsOf(415, 93, 4, 2, 6, 7);
        termsOf(-415, 93, -5, 1, 1, 6, 7);
    }

    private static void fraction() {
        Due.by("2 ArithmeticException: down is 0");
        for (long up : new long[] {0, 1, -1, SMALL + 1, MOST, LEAST}) {
            PlainGeometry x = new PlainGeometry();
            Due.is(up + " / 0", Make.throwsOf(x, up, 0), 1);
            Due.is(up + " / 0 makes nothing", x.count(0), 0);
            Due.is(up + " / 1 throws nothing", Make.throwsOf(x, up, 1), 0);
            Due.is(up + " / -1 throws nothing", Make.throwsOf(x, up, -1), 0);
        }
        Due.by("2 ArithmeticException, in a full room too");
        PlainGeometry full = new PlainGeometry();
        fill(full);
        Due.is("1 / 0", Make.throwsOf(full, 1, 0), 1);
        Due.is("200", full.count(0), 200);
        Due.by("2 -4 (also -2^63 told)");
        notMade(LEAST, 1);
        notMade(LEAST, LEAST);
        notMade(LEAST, 1L << 62);
        notMade(LEAST, -1);
        notMade(1, LEAST);
        notMade(0, LEAST);
        notMade(-(1L << 62), LEAST);
        made(LEAST + 1, MOST, -1, 1);
        made(MOST, LEAST + 1, -1, 1);
        made(0, LEAST + 1, 0, 1);
        made(1L << 62, -(1L << 62), -1, 1);
    }

    private static PlainGeometry two(long aUp, long aDown, long bUp, long bDown) {
        PlainGeometry x = new PlainGeometry();
        x.fraction(aUp, aDown);
        x.fraction(bUp, bDown);
        return x;
    }

    private static void gives(int op, long aUp, long aDown, long bUp, long bDown, long n, long d) {
        PlainGeometry x = two(aUp, aDown, bUp, bDown);
        String told = aUp + "/" + aDown + " op " + op + " " + bUp + "/" + bDown;
        Due.is(told, x.apply(op, 0, 1), 2);
        Make.isNumber(told, x, 2, n, d);
    }

    private static void refuses(int op, long aUp, long aDown, long bUp, long bDown, long due) {
        String told = aUp + "/" + aDown + " op " + op + " " + bUp + "/" + bDown;
        Refused.is(told, x -> x.fraction(aUp, aDown) + x.fraction(bUp, bDown), x -> x.apply(op, 0, 1), due);
    }

    private static void reckon() {
        Due.by("3 0 a + b, to what is SMALL");
        gives(0, SMALL - 1, 1, 1, 1, SMALL, 1);
        refuses(0, SMALL, 1, 1, 1, -4);
        gives(0, 1 - SMALL, 1, -1, 1, -SMALL, 1);
        refuses(0, -SMALL, 1, -1, 1, -4);
        gives(0, 1, 1 << 15, 1, (1 << 15) - 1, 65535, 32768L * 32767);
        refuses(0, 1, 1 << 15, 1, (1 << 15) + 1, -4);
        gives(0, SMALL, 1, -SMALL, 1, 0, 1);
        Due.by("3 1 a - b, to what is SMALL");
        gives(1, SMALL - 1, 1, -1, 1, SMALL, 1);
        refuses(1, SMALL, 1, -1, 1, -4);
        gives(1, 1 - SMALL, 1, 1, 1, -SMALL, 1);
        refuses(1, -SMALL, 1, 1, 1, -4);
        refuses(1, 1, SMALL, 1, SMALL - 1, -4);
        Due.by("3 2 a b, to what is SMALL");
        gives(2, 1 << 15, 1, 1 << 15, 1, SMALL, 1);
        gives(2, 1 << 15, 1, -(1 << 15), 1, -SMALL, 1);
        refuses(2, 1 << 15, 1, (1 << 15) + 1, 1, -4);
        gives(2, 1, 1 << 15, 1, 1 << 15, 1, SMALL);
        refuses(2, 1, 1 << 15, 1, (1 << 15) + 1, -4);
        gives(2, SMALL, SMALL - 1, SMALL - 1, SMALL, 1, 1);
        refuses(2, SMALL, 1, SMALL, 1, -4);
        Due.by("3 3 a / b, to what is SMALL");
        gives(3, 1 << 15, 1, 1, 1 << 15, SMALL, 1);
        refuses(3, 1 << 15, 1, 1, (1 << 15) + 1, -4);
        gives(3, -1, 1 << 15, 1 << 15, 1, -1, SMALL);
        refuses(3, 1, 1 << 15, (1 << 15) + 1, 1, -4);
        gives(3, 2, 3, -2, 3, -1, 1);
        gives(3, 0, 1, -SMALL, 1, 0, 1);
        Due.by("3 3 a / b (-3 b is 0)");
        refuses(3, 1, 1, 0, 1, -3);
        refuses(3, 0, 1, 0, 1, -3);
        refuses(3, -SMALL, 1, 0, 5, -3);
        gives(3, 1, 1, 1, SMALL, SMALL, 1);
    }

    private static void lesserAndGreater() {
        Due.by("3 4 the lesser, 5 the greater");
        gives(4, 1, 2, 1, 3, 1, 3);
        gives(4, 1, 3, 1, 2, 1, 3);
        gives(5, 1, 2, 1, 3, 1, 2);
        gives(5, 1, 3, 1, 2, 1, 2);
        gives(4, -1, 2, -1, 3, -1, 2);
        gives(5, -1, 2, -1, 3, -1, 3);
        gives(4, 0, 1, -1, SMALL, -1, SMALL);
        gives(5, -1, SMALL, 0, 1, 0, 1);
        gives(4, 5, 7, 10, 14, 5, 7);
        gives(5, 5, 7, 10, 14, 5, 7);
        gives(4, SMALL, SMALL - 1, SMALL - 1, SMALL - 2, SMALL, SMALL - 1);
        gives(5, SMALL, SMALL - 1, SMALL - 1, SMALL - 2, SMALL - 1, SMALL - 2);
    }

    private static void firstTerm() {
        Due.by("3 6 the first TERM of a");
        gives(6, 7, 2, 0, 1, 3, 1);
        gives(6, -7, 2, 0, 1, -4, 1);
        gives(6, 4, 1, 0, 1, 4, 1);
        gives(6, -4, 1, 0, 1, -4, 1);
        gives(6, 0, 1, 0, 1, 0, 1);
        gives(6, -1, SMALL, 0, 1, -1, 1);
        gives(6, SMALL - 1, SMALL, 0, 1, 0, 1);
        gives(6, -SMALL, 1, 0, 1, -SMALL, 1);
        unknownB(6);
    }

    /** (b is any NUMBER by 6 to 8.) */
    private static void unknownB(int op) {
        for (int none : NO_NUMBERS) {
            Refused.is("b " + none + " by " + op, x -> x.fraction(4, 9), x -> x.apply(op, 0, none), -1);
        }
        Refused.is("the next b by " + op, x -> x.fraction(4, 9), x -> x.apply(op, 0, 1), -1);
        PlainGeometry x = two(4, 9, 0, 1);
        Due.is("any b by " + op, x.apply(op, 0, 1), 2);
    }

    private static void root() {
        Due.by("3 7 the root of a");
        gives(7, 0, 1, 5, 1, 0, 1);
        gives(7, 1, 1, 0, 1, 1, 1);
        gives(7, 4, 9, 0, 1, 2, 3);
        gives(7, SMALL, 1, 0, 1, 1 << 15, 1);
        gives(7, 1, SMALL, 0, 1, 1, 1 << 15);
        gives(7, 32767L * 32767, SMALL, 0, 1, 32767, 32768);
        Due.by("3 7 (-3 it is no fraction)");
        refuses(7, 2, 1, 0, 1, -3);
        refuses(7, 1, 2, 0, 1, -3);
        refuses(7, 4, 3, 0, 1, -3);
        refuses(7, 3, 4, 0, 1, -3);
        refuses(7, SMALL - 1, 1, 0, 1, -3);
        refuses(7, 32767L * 32767 + 1, 1, 0, 1, -3);
        refuses(7, 1, SMALL - 1, 0, 1, -3);
        Due.by("3 7 (-3 a is below 0)");
        refuses(7, -1, 1, 0, 1, -3);
        refuses(7, -4, 9, 0, 1, -3);
        refuses(7, -SMALL, 1, 0, 1, -3);
        refuses(7, -1, SMALL, 0, 1, -3);
        unknownB(7);
    }

    private static void size() {
        Due.by("3 8 the size of a");
        gives(8, -7, 2, 0, 1, 7, 2);
        gives(8, 7, 2, 0, 1, 7, 2);
        gives(8, 0, 1, 0, 1, 0, 1);
        gives(8, -SMALL, 1, 0, 1, SMALL, 1);
        gives(8, -1, SMALL, 0, 1, 1, SMALL);
        unknownB(8);
    }

    private static void bothWays(long aUp, long aDown, long bUp, long bDown, long n, long d) {
        gives(9, aUp, aDown, bUp, bDown, n, d);
        gives(9, bUp, bDown, aUp, aDown, n, d);
        gives(9, -aUp, aDown, -bUp, bDown, -n, d);
    }

    private static void between() {
        Due.by("3 9 the fraction between a and b of the least denominator; a above b: the other way around");
        bothWays(1, 3, 2, 5, 1, 3);
        bothWays(3, 10, 2, 5, 1, 3);
        bothWays(31, 10, 63, 20, 22, 7);
        bothWays(4, 7, 3, 5, 3, 5);
        bothWays(1, SMALL, 1, SMALL - 1, 1, SMALL - 1);
        bothWays(SMALL - 2, SMALL - 1, SMALL - 1, SMALL, SMALL - 2, SMALL - 1);
        bothWays(SMALL - 1, SMALL, 1, 1, 1, 1);
        Due.by("3 9 of these the one nearest to 0");
        bothWays(3, 2, 9, 2, 2, 1);
        bothWays(1, 2, 100, 1, 1, 1);
        bothWays(3, 10, 19, 20, 1, 2);
        bothWays(21, 10, 39, 10, 3, 1);
        bothWays(21, 10, 29, 10, 5, 2);
        bothWays(1, 4, 49, 100, 1, 3);
        bothWays(26, 100, 42, 100, 1, 3);
        Due.by("3 9 between that has 0 in it");
        bothWays(-1, 2, 5, 1, 0, 1);
        bothWays(-5, 1, 1, 2, 0, 1);
        bothWays(-1, SMALL, 1, SMALL, 0, 1);
        Due.by("3 9 (a, b count as between)");
        bothWays(0, 1, 5, 1, 0, 1);
        bothWays(2, 1, 5, 2, 2, 1);
        bothWays(3, 2, 2, 1, 2, 1);
        bothWays(1, 2, 2, 3, 1, 2);
        bothWays(2, 5, 1, 2, 1, 2);
        bothWays(5, 7, 5, 7, 5, 7);
        bothWays(0, 1, 0, 1, 0, 1);
        bothWays(SMALL, 1, SMALL, 1, SMALL, 1);
        Due.by("3 an op that there is not");
        for (int op : new int[] {-1, 10, Make.TINY, Make.HUGE}) {
            refuses(op, 1, 2, 1, 3, -1);
        }
        for (int op = 0; op < 10; op++) {
            for (int none : NO_NUMBERS) {
                int o = op;
                Refused.is("a " + none + " by " + op, x -> x.fraction(4, 9), x -> x.apply(o, none, 0), -1);
                Refused.is("b " + none + " by " + op, x -> x.fraction(4, 9), x -> x.apply(o, 0, none), -1);
            }
        }
    }

    private static void compare() {
        Due.by("4 -1 a is below b, 0, 1 above");
        long[][] up = {{-SMALL, 1}, {-1, 2}, {-1, 3}, {-1, SMALL}, {0, 1}, {1, SMALL}, {1, SMALL - 1}, {1, 3}, {1, 2},
            {SMALL, SMALL - 1}, {SMALL - 1, SMALL - 2}, {SMALL - 1, 1}, {SMALL, 1}};
        PlainGeometry x = new PlainGeometry();
        for (long[] row : up) {
            x.fraction(row[0], row[1]);
        }
        for (int a = 0; a < up.length; a++) {
            for (int b = 0; b < up.length; b++) {
                Due.is(a + " to " + b, x.compare(a, b), Integer.compare(a, b));
            }
        }
        int again = x.fraction(-2, 4);
        Due.is("two alike", x.compare(1, again), 0);
        Due.by("4 -9 one is unknown");
        for (int none : NO_NUMBERS) {
            Due.is("a " + none, x.compare(none, 0), -9);
            Due.is("b " + none, x.compare(0, none), -9);
            Due.is("both " + none, x.compare(none, none), -9);
        }
        Due.is("the next", x.compare(0, again + 1), -9);
        Due.is("the last", x.compare(0, again), -1);
    }

    private static void numberOf() {
        Due.by("5 n (what = 0), d (1), how many TERMS (2), TERM i (3 + i)");
        PlainGeometry x = new PlainGeometry();
        int a = x.fraction(-43, 10);
        long[] due = {-43, 10, 4, -5, 1, 2, 3};
        for (int what = 0; what < due.length; what++) {
            Due.is("what " + what, x.numberOf(a, what), due[what]);
        }
        Due.by("5 0 for others");
        for (int what : new int[] {-1, -2, -3, -4, 7, 8, 9, Make.TINY, Make.TINY + 2, Make.TINY + 3, Make.HUGE}) {
            Due.is("what " + what, x.numberOf(a, what), 0);
        }
        for (int none : new int[] {-1, 1, 199, 200, Make.TINY, Make.HUGE}) {
            for (int what = -1; what < 9; what++) {
                Due.is("of " + none + " what " + what, x.numberOf(none, what), 0);
            }
        }
        Due.by("5 the most TERMS that SMALL ones have");
        int many = x.fraction(701408733, 433494437);
        Due.is("how many", x.numberOf(many, 2), 42);
        Due.is("TERM 0", x.numberOf(many, 3), 1);
        Due.is("TERM 40", x.numberOf(many, 43), 1);
        Due.is("TERM 41", x.numberOf(many, 44), 2);
        Due.is("TERM 42", x.numberOf(many, 45), 0);
        int less = x.fraction(-433494437, 701408733);
        Due.is("how many below 0", x.numberOf(less, 2), 42);
        Due.is("its TERM 0", x.numberOf(less, 3), -1);
    }

    private static void nearOf(long up, long down, double due) {
        PlainGeometry x = new PlainGeometry();
        Due.is(up + " / " + down, x.near(x.fraction(up, down)), due);
    }

    private static void near() {
        Due.by("6 the double that is n / d, rounded as that is");
        nearOf(1, 3, 0.3333333333333333);
        nearOf(-2, 3, -0.6666666666666666);
        nearOf(1, SMALL, 0x1p-30);
        nearOf(-SMALL, 1, -0x1p30);
        nearOf(SMALL, SMALL - 1, 1073741824.0 / 1073741823.0);
        nearOf(SMALL - 1, SMALL, 0.9999999990686774);
        nearOf(0, 1, 0.0);
        nearOf(0, -5, 0.0);
        Due.by("6 0.0 for an unknown one");
        PlainGeometry x = two(1, 2, 3, 4);
        for (int none : new int[] {-1, 2, 199, 200, Make.TINY, Make.HUGE}) {
            Due.is("of " + none, x.near(none), 0.0);
        }
        Due.is("of the last", x.near(1), 0.75);
    }

    private static void count() {
        Due.by("25 0 NUMBERS, 1 THINGS, 2 POLYGONS, 3 POLYNOMIALS");
        PlainGeometry x = new PlainGeometry();
        for (int i = 0; i < 4; i++) {
            x.fraction(i, 1);
        }
        for (int i = 0; i < 3; i++) {
            x.step(0, i, 0);
        }
        x.polygon();
        x.polygon();
        x.term(1, 0);
        for (int what = 0; what < 4; what++) {
            Due.is("what " + what, x.count(what), 4 - what);
        }
        Due.by("25 -2");
        for (int what : new int[] {-1, 4, 5, Make.TINY, Make.HUGE}) {
            Due.is("what " + what, x.count(what), -2);
        }
    }

    /** The rooms full by 372 calls, and 140 more that are promised. */
    private static void lastCalls() {
        Due.by("An object is used for at most 512 calls after it has been made");
        PlainGeometry x = new PlainGeometry();
        int calls = 0;
        for (int i = 0; i < 200; i++, calls++) {
            x.fraction(i, 1);
        }
        for (int i = 0; i < 100; i++, calls++) {
            x.step(0, i, 199 - i);
        }
        for (int i = 0; i < 12; i++, calls++) {
            x.polygon();
        }
        for (int i = 0; i < 60; i++, calls++) {
            x.term(i, 0);
        }
        for (; calls < 507; calls++) {
            Due.is("call " + calls, x.numberOf(calls % 200, 0), calls % 200);
        }
        Due.is("call 508", x.numberOf(199, 0), 199);
        Due.is("call 509", x.thing(99, 2), 100);
        Due.is("call 510", x.coefficient(59, 1, 0, 0), 59);
        Due.is("call 511", x.corner(11, 0, 0), 1);
        Due.is("call 512", x.fraction(1, 1), -4);
    }
}
