/** The plain side of a geometry house; ../shared/DOC.md says what each call answers. */
public final class PlainGeometry {
    public static final int NONE = -1;

    private static final int UNKNOWN = -1;
    private static final int OUT_OF_RANGE = -2;
    private static final int NOTHING = -3;
    private static final int NO_ROOM = -4;
    private static final int NOT_TO_COMPARE = -9;

    private static final int POINT = 0;
    private static final int LINE = 1;
    private static final int CIRCLE = 2;

    // What a call's arguments must be, kind by kind:
    // p POINT, l LINE, c CIRCLE, t any THING, n NUMBER, - not looked at.
    private static final String STEP_A = "nplppppppplcppllccpp";
    private static final String STEP_B = "nplpllllccccppcccccc";
    private static final String THREE_A = "ppppppppp";
    private static final String THREE_B = "ppppppptn";
    private static final String THREE_C = "ppppppppp";
    private static final String MEASURE_A = "ppppcpp";
    private static final String MEASURE_B = "ttpctpl";
    private static final String MEASURE_C = "tttttpt";
    private static final String HOLDS_A = "plppllpplccpplp";
    private static final String HOLDS_B = "pllcllppcccpclp";
    private static final String HOLDS_C = "pl----pp---p-cp";
    private static final String HOLDS_D = "------pp------p";

    private final Sums sums;
    private final Numbers numbers;
    private final Plane plane;
    private final Things things;
    private final Statements statements;
    private final Polygons polygons;
    private final Polynomials polynomials;
    private final Cells cells;

    public PlainGeometry() {
        sums = new Sums();
        numbers = new Numbers();
        plane = new Plane(sums);
        things = new Things(sums, plane);
        statements = new Statements(sums, plane, things);
        polygons = new Polygons();
        polynomials = new Polynomials();
        cells = new Cells();
    }

    public int fraction(long up, long down) throws ArithmeticException {
        if (down == 0) {
            throw new ArithmeticException("a fraction over 0");
        }
        return numbers.keep(up, down);
    }

    public int apply(int op, int a, int b) {
        if (op < 0 || op > 9 || !numbers.has(a) || !numbers.has(b)) {
            return UNKNOWN;
        }
        return op < 4 ? numbers.reckon(op, a, b) : numbers.choose(op, a, b);
    }

    public int compare(int a, int b) {
        if (!numbers.has(a) || !numbers.has(b)) {
            return NOT_TO_COMPARE;
        }
        return numbers.order(a, b);
    }

    public long numberOf(int a, int what) {
        if (what == 0) {
            return numbers.upOf(a);
        }
        if (what == 1) {
            return numbers.has(a) ? numbers.downOf(a) : 0;
        }
        if (what == 2) {
            return numbers.howManyTerms(a);
        }
        return what < 0 ? 0 : numbers.termAt(a, what - 3);
    }

    public double near(int a) {
        if (!numbers.has(a)) {
            return 0.0;
        }
        return (double) numbers.upOf(a) / (double) numbers.downOf(a);
    }

    public int step(int kind, int a, int b) {
        if (!isA(sortAt(STEP_A, kind), a) || !isA(sortAt(STEP_B, kind), b)) {
            return UNKNOWN;
        }
        sums.reset();
        if (kind == 12 || kind == 13) {
            return things.keepRing(ringByStep(kind, a, b));
        }
        if (givesLine(kind)) {
            return things.keepTriple(LINE, lineByStep(kind, a, b));
        }
        return things.keepTriple(POINT, pointByStep(kind, a, b));
    }

    public int three(int kind, int a, int b, int c) {
        if (!isA(sortAt(THREE_A, kind), a) || !isA(sortAt(THREE_B, kind), b)
                || !isA(sortAt(THREE_C, kind), c)) {
            return UNKNOWN;
        }
        sums.reset();
        if (kind == 0 || kind == 4) {
            return things.keepRing(ringByThree(kind, a, b, c));
        }
        return things.keepTriple(POINT, pointByThree(kind, a, b, c));
    }

    public int thing(int t, int what) {
        int sort = things.sortOf(t);
        if (what == 0) {
            return sort;
        }
        int last = sort == CIRCLE ? 4 : 3;
        return sort < 0 || what < 0 || what > last ? 0 : (int) things.partOf(t, what - 1);
    }

    public int measure(int kind, int a, int b, int c) {
        if (!isA(sortAt(MEASURE_A, kind), a) || !isA(sortAt(MEASURE_B, kind), b)
                || !isA(sortAt(MEASURE_C, kind), c)) {
            return UNKNOWN;
        }
        sums.reset();
        Triple quotient = kind == 3 || kind == 4
                ? measuredInRing(kind, a, b) : measured(kind, a, b, c);
        if (quotient == null) {
            return NOTHING;
        }
        return keepQuotient(quotient.x, quotient.w);
    }

    public int holds(int kind, int a, int b, int c, int d) {
        if (!isA(sortAt(HOLDS_A, kind), a) || !isA(sortAt(HOLDS_B, kind), b)
                || !isA(sortAt(HOLDS_C, kind), c) || !isA(sortAt(HOLDS_D, kind), d)) {
            return UNKNOWN;
        }
        sums.reset();
        return statements.isSo(kind, a, b, c, d) ? 1 : 0;
    }

    public int polygon() {
        return polygons.begin();
    }

    public int corner(int p, int x, int y) {
        return polygons.add(p, x, y);
    }

    public long polygonOf(int p, int what) {
        if (!polygons.has(p)) {
            return UNKNOWN;
        }
        if (what < 0 || what > 8) {
            return OUT_OF_RANGE;
        }
        return polygons.tell(p, what);
    }

    public int place(int p, int t) {
        if (!polygons.has(p) || things.sortOf(t) != POINT) {
            return UNKNOWN;
        }
        long w = things.partOf(t, 2);
        if (w == 0 || !polygons.isSimple(p)) {
            return NOTHING;
        }
        return polygons.whereIs(p, things.partOf(t, 0), things.partOf(t, 1), w);
    }

    public int around(int p, int i, int what) {
        if (!polygons.has(p)) {
            return UNKNOWN;
        }
        int ends = polygons.wrap(p);
        if (i < 0 || i >= ends || what < 0 || what > 1) {
            return OUT_OF_RANGE;
        }
        return what == 0 ? polygons.xOfWrap(p, i) : polygons.yOfWrap(p, i);
    }

    public int term(long v, int unknown) {
        if (unknown != NONE && (unknown < 0 || unknown > 2)) {
            return OUT_OF_RANGE;
        }
        return polynomials.keepSingle(v, unknown);
    }

    public int combine(int op, int a, int b) {
        if (op < 0 || op > 4 || !polynomials.has(a) || !polynomials.has(b)) {
            return UNKNOWN;
        }
        return polynomials.keepCombined(op, a, b);
    }

    public long coefficient(int a, int i, int j, int k) {
        return polynomials.coefficientOf(a, i, j, k);
    }

    public int same(int a, int b) {
        if (!polynomials.has(a) || !polynomials.has(b)) {
            return UNKNOWN;
        }
        return polynomials.areSame(a, b) ? 1 : 0;
    }

    public int value(int a, int x, int y, int z) {
        if (!polynomials.has(a) || !numbers.has(x) || !numbers.has(y) || !numbers.has(z)) {
            return UNKNOWN;
        }
        return polynomials.keepValue(a, numbers, x, y, z);
    }

    public long tile(int w, int l, long without) {
        return isBoard(w, l) ? cells.waysToLay(w, l, without, 2) : OUT_OF_RANGE;
    }

    public long rows(int w, int l, long without) {
        return isBoard(w, l) ? cells.waysToLay(w, l, without, 3) : OUT_OF_RANGE;
    }

    public int list(int kind, int n) {
        if (kind < 0 || kind > 3) {
            return UNKNOWN;
        }
        if (n < 1 || n > Cells.MOST) {
            return OUT_OF_RANGE;
        }
        return cells.howManyFigures(kind, n);
    }

    public int count(int what) {
        switch (what) {
            case 0:
                return numbers.many;
            case 1:
                return things.many;
            case 2:
                return polygons.many;
            case 3:
                return polynomials.many;
            default:
                return OUT_OF_RANGE;
        }
    }

    private static boolean isBoard(int w, int l) {
        return w >= 1 && w <= Cells.MOST && l >= 1 && l <= Cells.MOST;
    }

    private static char sortAt(String sorts, int kind) {
        return kind < 0 || kind >= sorts.length() ? '?' : sorts.charAt(kind);
    }

    private boolean isA(char sort, int number) {
        if (sort == 'n') {
            return numbers.has(number);
        }
        if (sort == 'p') {
            return things.sortOf(number) == POINT;
        }
        if (sort == 'l') {
            return things.sortOf(number) == LINE;
        }
        if (sort == 'c') {
            return things.sortOf(number) == CIRCLE;
        }
        if (sort == 't') {
            return things.sortOf(number) >= 0;
        }
        return sort == '-';
    }

    private static boolean givesLine(int kind) {
        return kind == 1 || kind == 5 || kind == 6 || kind == 9 || kind == 11 || kind >= 18;
    }

    private Triple pointByStep(int kind, int a, int b) {
        switch (kind) {
            case 0:
                return pointAt(a, b);
            case 2:
                return plane.common(things.tripleOf(a), things.tripleOf(b));
            case 3:
                return plane.middle(things.tripleOf(a), things.tripleOf(b));
            case 4:
                return plane.foot(things.tripleOf(a), things.tripleOf(b));
            case 7:
                return plane.mirrored(things.tripleOf(a), things.tripleOf(b));
            case 8:
                return plane.inverse(things.tripleOf(a), things.ringOf(b));
            case 10:
                return plane.pole(things.tripleOf(a), things.ringOf(b));
            case 14:
            case 15:
                return plane.crossing(things.tripleOf(a), things.ringOf(b), kind == 15);
            default:
                return plane.ringCrossing(things.ringOf(a), things.ringOf(b), kind == 17);
        }
    }

    private Triple lineByStep(int kind, int a, int b) {
        switch (kind) {
            case 1:
                return plane.common(things.tripleOf(a), things.tripleOf(b));
            case 5:
                return plane.lineAlong(things.tripleOf(a), things.tripleOf(b));
            case 6:
                return plane.lineAcross(things.tripleOf(a), things.tripleOf(b));
            case 9:
                return plane.polar(things.tripleOf(a), things.ringOf(b));
            case 11:
                return plane.powerLine(things.ringOf(a), things.ringOf(b));
            default:
                return plane.tangent(things.tripleOf(a), things.ringOf(b), kind == 19);
        }
    }

    private Ring ringByStep(int kind, int a, int b) {
        Triple p = things.tripleOf(a);
        Triple q = things.tripleOf(b);
        return kind == 12 ? plane.ringAround(p, q) : plane.ringOver(p, q);
    }

    private Triple pointAt(int a, int b) {
        Whole down = sums.of(numbers.downOf(a));
        Whole otherDown = sums.of(numbers.downOf(b));
        return new Triple(sums.times(sums.of(numbers.upOf(a)), otherDown),
                sums.times(sums.of(numbers.upOf(b)), down), sums.times(down, otherDown));
    }

    private Triple pointByThree(int kind, int a, int b, int c) {
        Triple p = things.tripleOf(a);
        Triple r = things.tripleOf(c);
        if (kind == 7) {
            return plane.turned(p, r);
        }
        if (kind == 8) {
            return plane.stretched(p, r, sums.of(numbers.upOf(b)), sums.of(numbers.downOf(b)));
        }
        Triple q = things.tripleOf(b);
        switch (kind) {
            case 1:
                return plane.middleOfThree(p, q, r);
            case 2:
                return plane.heightsMeet(p, q, r);
            case 3:
                return plane.middleOfRing(plane.ringThrough(p, q, r));
            case 5:
                return plane.fourthHarmonic(p, q, r);
            default:
                return plane.moved(p, q, r);
        }
    }

    private Ring ringByThree(int kind, int a, int b, int c) {
        Triple p = things.tripleOf(a);
        Triple q = things.tripleOf(b);
        Triple r = things.tripleOf(c);
        if (kind == 0) {
            return plane.ringThrough(p, q, r);
        }
        return plane.ringThrough(plane.middle(p, q), plane.middle(q, r), plane.middle(r, p));
    }

    // A measured quotient is given as x over w of a Triple.
    private Triple measured(int kind, int a, int b, int c) {
        Triple p = things.tripleOf(a);
        if (plane.isFar(p)) {
            return null;
        }
        switch (kind) {
            case 0:
                return p;
            case 1:
                return new Triple(p.y, p.y, p.w);
            case 2:
                return plane.squareOfWay(p, things.tripleOf(b));
            case 5:
                return plane.twiceArea(p, things.tripleOf(b), things.tripleOf(c));
            default:
                return plane.squareOfWayToLine(p, things.tripleOf(b));
        }
    }

    private Triple measuredInRing(int kind, int a, int b) {
        if (kind == 4) {
            return plane.squareOfRadius(things.ringOf(a));
        }
        Triple p = things.tripleOf(a);
        return plane.isFar(p) ? null : plane.powerOf(p, things.ringOf(b));
    }

    private int keepQuotient(Whole up, Whole down) {
        Whole divisor = sums.commonDivisor(up, down);
        Whole lowUp = sums.quotient(up, divisor);
        Whole lowDown = sums.quotient(down, divisor);
        if (!sums.isWithin(lowUp, Numbers.SMALL) || !sums.isWithin(lowDown, Numbers.SMALL)) {
            return NO_ROOM;
        }
        return numbers.keep(sums.longOf(lowUp), sums.longOf(lowDown));
    }

    /** A whole number in two's complement, limbs of 32 bits, the lowest first. */
    private static final class Whole {
        final int[] limb;

        Whole() {
            limb = new int[Sums.LIMBS];
        }
    }

    /**
     * Sums of whole numbers too great for a long. The greatest, of the circle through three
     * middles, stay below 260 bits. Each call of the face takes its numbers from one pool anew.
     */
    private static final class Sums {
        static final int LIMBS = 12;
        static final int BITS = 32 * LIMBS;
        static final int POOL = 400;
        static final long LOW = 0xFFFFFFFFL;

        private final Whole[] pool;
        private int taken;

        Sums() {
            pool = new Whole[POOL];
            taken = 0;
        }

        void reset() {
            taken = 0;
        }

        /** A 0 to be written over. */
        private Whole fresh() {
            if (taken < 0 || taken >= pool.length) {
                return new Whole();
            }
            Whole made = pool[taken];
            if (made == null) {
                made = new Whole();
                pool[taken] = made;
            }
            for (int i = 0; i < LIMBS; i++) {
                made.limb[i] = 0;
            }
            taken++;
            return made;
        }

        Whole of(long v) {
            Whole made = fresh();
            long rest = v;
            for (int i = 0; i < LIMBS; i++) {
                made.limb[i] = (int) rest;
                rest >>= 32;
            }
            return made;
        }

        private void raise(Whole a, Whole b) {
            long carry = 0;
            for (int i = 0; i < LIMBS; i++) {
                carry += (a.limb[i] & LOW) + (b.limb[i] & LOW);
                a.limb[i] = (int) carry;
                carry >>>= 32;
            }
        }

        private void lessen(Whole a, Whole b) {
            long borrow = 0;
            for (int i = 0; i < LIMBS; i++) {
                borrow += (a.limb[i] & LOW) - (b.limb[i] & LOW);
                a.limb[i] = (int) borrow;
                borrow >>= 32;
            }
        }

        private void addProduct(Whole sum, Whole a, Whole b) {
            for (int i = 0; i < LIMBS; i++) {
                long factor = a.limb[i] & LOW;
                long carry = 0;
                for (int j = 0; factor != 0 && i + j < LIMBS; j++) {
                    carry += (sum.limb[i + j] & LOW) + factor * (b.limb[j] & LOW);
                    sum.limb[i + j] = (int) carry;
                    carry >>>= 32;
                }
            }
        }

        Whole negated(Whole a) {
            Whole made = fresh();
            lessen(made, a);
            return made;
        }

        Whole plus(Whole a, Whole b) {
            Whole sum = fresh();
            raise(sum, a);
            raise(sum, b);
            return sum;
        }

        Whole minus(Whole a, Whole b) {
            Whole rest = fresh();
            raise(rest, a);
            lessen(rest, b);
            return rest;
        }

        Whole times(Whole a, Whole b) {
            Whole product = fresh();
            addProduct(product, a, b);
            return product;
        }

        Whole twice(Whole a) {
            Whole sum = fresh();
            raise(sum, a);
            raise(sum, a);
            return sum;
        }

        /** a b + c d. */
        Whole added(Whole a, Whole b, Whole c, Whole d) {
            Whole sum = fresh();
            addProduct(sum, a, b);
            addProduct(sum, c, d);
            return sum;
        }

        /** a b - c d. */
        Whole difference(Whole a, Whole b, Whole c, Whole d) {
            Whole rest = fresh();
            Whole part = fresh();
            addProduct(rest, a, b);
            addProduct(part, c, d);
            lessen(rest, part);
            return rest;
        }

        boolean isZero(Whole a) {
            for (int i = 0; i < LIMBS; i++) {
                if (a.limb[i] != 0) {
                    return false;
                }
            }
            return true;
        }

        int sign(Whole a) {
            if (a.limb[LIMBS - 1] < 0) {
                return -1;
            }
            return isZero(a) ? 0 : 1;
        }

        Whole size(Whole a) {
            Whole made = fresh();
            if (sign(a) < 0) {
                lessen(made, a);
            } else {
                raise(made, a);
            }
            return made;
        }

        int order(Whole a, Whole b) {
            int top = LIMBS - 1;
            if (a.limb[top] != b.limb[top]) {
                return a.limb[top] < b.limb[top] ? -1 : 1;
            }
            for (int i = top - 1; i >= 0; i--) {
                long p = a.limb[i] & LOW;
                long q = b.limb[i] & LOW;
                if (p != q) {
                    return p < q ? -1 : 1;
                }
            }
            return 0;
        }

        boolean areEqual(Whole a, Whole b) {
            return order(a, b) == 0;
        }

        boolean isWithin(Whole a, long most) {
            return order(size(a), of(most)) <= 0;
        }

        /** The number itself, if it is within a long. */
        long longOf(Whole a) {
            return (long) a.limb[1] << 32 | a.limb[0] & LOW;
        }

        /** How many bits a number not below 0 has. */
        int bits(Whole a) {
            for (int i = LIMBS - 1; i >= 0; i--) {
                int rest = a.limb[i];
                if (rest != 0) {
                    int found = 0;
                    for (int b = 0; b < 32; b++) {
                        found = (rest >>> b & 1) != 0 ? b + 1 : found;
                    }
                    return 32 * i + found;
                }
            }
            return 0;
        }

        private void halve(Whole a) {
            int above = 0;
            for (int i = LIMBS - 1; i >= 0; i--) {
                int here = a.limb[i];
                a.limb[i] = here >>> 1 | above << 31;
                above = here & 1;
            }
        }

        private void doubleOften(Whole a, int often) {
            for (int turn = 0; turn < often; turn++) {
                int below = 0;
                for (int i = 0; i < LIMBS; i++) {
                    int here = a.limb[i];
                    a.limb[i] = here << 1 | below;
                    below = here >>> 31;
                }
            }
        }

        private boolean isEven(Whole a) {
            return (a.limb[0] & 1) == 0;
        }

        private int stripTwos(Whole a) {
            int twos = 0;
            while (twos < BITS && isEven(a)) {
                halve(a);
                twos++;
            }
            return twos;
        }

        /** The greatest common divisor of the sizes: the other one's size if one is 0. */
        Whole commonDivisor(Whole a, Whole b) {
            Whole u = size(a);
            Whole v = size(b);
            if (isZero(u) || isZero(v)) {
                return isZero(u) ? v : u;
            }
            int twosOfU = stripTwos(u);
            int twosOfV = stripTwos(v);
            for (int turn = 0; turn < 2 * BITS; turn++) {
                int order = order(u, v);
                if (order == 0) {
                    break;
                }
                Whole greater = order > 0 ? u : v;
                lessen(greater, order > 0 ? v : u);
                stripTwos(greater);
            }
            doubleOften(u, twosOfU < twosOfV ? twosOfU : twosOfV);
            return u;
        }

        /** a / divisor towards 0; a itself if the divisor is 0. */
        Whole quotient(Whole a, Whole divisor) {
            if (isZero(divisor)) {
                return a;
            }
            Whole rest = size(a);
            Whole part = size(divisor);
            Whole made = fresh();
            int shift = bits(rest) - bits(part);
            doubleOften(part, shift);
            for (int i = shift; i >= 0; i--) {
                if (order(part, rest) <= 0) {
                    lessen(rest, part);
                    setBit(made, i);
                }
                halve(part);
            }
            return sign(a) == sign(divisor) ? made : negated(made);
        }

        private void setBit(Whole a, int bit) {
            if (bit >= 0 && bit < BITS) {
                a.limb[bit / 32] |= 1 << bit % 32;
            }
        }

        private void clearBit(Whole a, int bit) {
            if (bit >= 0 && bit < BITS) {
                a.limb[bit / 32] &= ~(1 << bit % 32);
            }
        }

        /** The root of a square, null of what is none. */
        Whole rootOf(Whole a) {
            if (sign(a) < 0) {
                return null;
            }
            Whole root = fresh();
            int mark = taken;
            for (int bit = bits(a) / 2; bit >= 0; bit--) {
                setBit(root, bit);
                if (order(times(root, root), a) > 0) {
                    clearBit(root, bit);
                }
                taken = mark;
            }
            return areEqual(times(root, root), a) ? root : null;
        }
    }

    /** The NUMBERS. */
    private static final class Numbers {
        static final long SMALL = 1L << 30;
        // -2^63, the one long whose size is no long.
        static final long NO_SIZE = 1L << 63;
        static final int ROOM = 200;
        static final int MOST_TERMS = 64;

        private final long[] ups;
        private final long[] downs;
        int many;

        // The last fraction that was reduced.
        long up;
        long down;

        Numbers() {
            ups = new long[ROOM];
            downs = new long[ROOM];
            many = 0;
            up = 0;
            down = 1;
        }

        boolean has(int a) {
            return a >= 0 && a < many && a < ROOM;
        }

        long upOf(int a) {
            return has(a) ? ups[a] : 0;
        }

        /** 1 for an unknown one, so that nothing is ever divided by 0. */
        long downOf(int a) {
            return has(a) ? downs[a] : 1;
        }

        /** Puts a fraction in lowest terms into up and down; whether it is SMALL. */
        boolean reduce(long over, long under) {
            if (over == NO_SIZE || under == NO_SIZE || under == 0) {
                return false;
            }
            long divisor = commonDivisor(over, under);
            if (divisor == 0) {
                return false;
            }
            up = under < 0 ? -(over / divisor) : over / divisor;
            down = Math.abs(under / divisor);
            return Math.abs(up) <= SMALL && down <= SMALL;
        }

        static long commonDivisor(long a, long b) {
            long u = Math.abs(a);
            long v = Math.abs(b);
            for (int turn = 0; turn < 200 && v != 0; turn++) {
                long rest = u % v;
                u = v;
                v = rest;
            }
            return u;
        }

        int keep(long over, long under) {
            if (!reduce(over, under) || many < 0 || many >= ROOM) {
                return NO_ROOM;
            }
            ups[many] = up;
            downs[many] = down;
            many++;
            return many - 1;
        }

        /** a + b, a - b, a b, a / b by op 0 to 3. */
        int reckon(int op, int a, int b) {
            long aUp = upOf(a);
            long aDown = downOf(a);
            long bUp = upOf(b);
            long bDown = downOf(b);
            if (op == 0) {
                return keep(aUp * bDown + bUp * aDown, aDown * bDown);
            }
            if (op == 1) {
                return keep(aUp * bDown - bUp * aDown, aDown * bDown);
            }
            if (op == 2) {
                return keep(aUp * bUp, aDown * bDown);
            }
            return bUp == 0 ? NOTHING : keep(aUp * bDown, aDown * bUp);
        }

        /** The operations 4 to 9. */
        int choose(int op, int a, int b) {
            int order = order(a, b);
            switch (op) {
                case 4:
                    return keepAgain(order <= 0 ? a : b);
                case 5:
                    return keepAgain(order >= 0 ? a : b);
                case 6:
                    return keep(wholeBelow(upOf(a), downOf(a)), 1);
                case 7:
                    return keepRoot(upOf(a), downOf(a));
                case 8:
                    return keep(Math.abs(upOf(a)), downOf(a));
                default:
                    return order <= 0 ? keepSimplest(a, b) : keepSimplest(b, a);
            }
        }

        private int keepAgain(int a) {
            return keep(upOf(a), downOf(a));
        }

        int order(int a, int b) {
            return Long.compare(upOf(a) * downOf(b), upOf(b) * downOf(a));
        }

        private static long wholeBelow(long over, long under) {
            return under == 0 ? 0 : Math.floorDiv(over, under);
        }

        private int keepRoot(long over, long under) {
            long rootOver = wholeRoot(over);
            long rootUnder = wholeRoot(under);
            if (rootOver * rootOver != over || rootUnder * rootUnder != under) {
                return NOTHING;
            }
            return keep(rootOver, rootUnder);
        }

        private static long wholeRoot(long square) {
            long root = 0;
            for (int bit = 15; bit >= 0; bit--) {
                long tried = root | 1L << bit;
                if (tried * tried <= square) {
                    root = tried;
                }
            }
            return root;
        }

        private int keepSimplest(int low, int high) {
            if (upOf(low) > 0) {
                simplest(upOf(low), downOf(low), upOf(high), downOf(high));
                return keep(up, down);
            }
            if (upOf(high) < 0) {
                simplest(-upOf(high), downOf(high), -upOf(low), downOf(low));
                return keep(-up, down);
            }
            return keep(0, 1);
        }

        /**
         * Puts the fraction of least denominator between two above 0 into up and down: the TERMS
         * that both have, then the least whole number that fits.
         */
        private void simplest(long lowUp, long lowDown, long highUp, long highDown) {
            long a = lowUp;
            long b = lowDown;
            long c = highUp;
            long d = highDown;
            long beforeUp = 0;
            long beforeDown = 1;
            up = 1;
            down = 0;
            boolean done = false;
            for (int turn = 0; turn < MOST_TERMS && !done; turn++) {
                long whole = wholeBelow(a, b);
                boolean isWhole = whole * b == a;
                done = isWhole || wholeBelow(c, d) > whole;
                long next = done && !isWhole ? whole + 1 : whole;
                long nextUp = next * up + beforeUp;
                long nextDown = next * down + beforeDown;
                beforeUp = up;
                beforeDown = down;
                up = nextUp;
                down = nextDown;
                long restOfLow = a - whole * b;
                long restOfHigh = c - whole * d;
                a = d;
                c = b;
                b = restOfHigh;
                d = restOfLow;
            }
        }

        int howManyTerms(int a) {
            long over = upOf(a);
            long under = has(a) ? downOf(a) : 0;
            int found = 0;
            while (found < MOST_TERMS && under != 0) {
                long rest = Math.floorMod(over, under);
                over = under;
                under = rest;
                found++;
            }
            return found;
        }

        long termAt(int a, int i) {
            if (i < 0 || i >= howManyTerms(a)) {
                return 0;
            }
            long over = upOf(a);
            long under = downOf(a);
            for (int turn = 0; turn < i && under != 0; turn++) {
                long rest = Math.floorMod(over, under);
                over = under;
                under = rest;
            }
            return wholeBelow(over, under);
        }

        /** Multiplies up / down with NUMBER a so many times; whether each product is SMALL. */
        boolean multiplyOften(int a, int often) {
            for (int turn = 0; turn < often; turn++) {
                if (!reduce(up * upOf(a), down * downOf(a))) {
                    return false;
                }
            }
            return true;
        }
    }

    /** X : Y : W of a POINT, or A : B : C of a LINE. */
    private static final class Triple {
        final Whole x;
        final Whole y;
        final Whole w;

        Triple(Whole x, Whole y, Whole w) {
            this.x = x;
            this.y = y;
            this.w = w;
        }
    }

    /** K : A : B : C of a CIRCLE. */
    private static final class Ring {
        final Whole k;
        final Whole a;
        final Whole b;
        final Whole c;

        Ring(Whole k, Whole a, Whole b, Whole c) {
            this.k = k;
            this.a = a;
            this.b = b;
            this.c = c;
        }
    }

    /** What points, lines and circles give together; null where they lie so that it is nothing. */
    private static final class Plane {
        private final Sums sums;

        Plane(Sums sums) {
            this.sums = sums;
        }

        /** The LINE of two POINTS, the POINT of two LINES; 0 : 0 : 0 if they are the same. */
        Triple cross(Triple p, Triple q) {
            return new Triple(sums.difference(p.y, q.w, p.w, q.y),
                    sums.difference(p.w, q.x, p.x, q.w), sums.difference(p.x, q.y, p.y, q.x));
        }

        Whole dot(Triple p, Triple q) {
            return sums.plus(sums.added(p.x, q.x, p.y, q.y), sums.times(p.w, q.w));
        }

        /** 0 if three POINTS have a LINE in common, or three LINES a POINT. */
        Whole determinant(Triple p, Triple q, Triple r) {
            Whole x = sums.difference(p.y, q.w, p.w, q.y);
            Whole y = sums.difference(p.w, q.x, p.x, q.w);
            Whole w = sums.difference(p.x, q.y, p.y, q.x);
            return sums.plus(sums.added(x, r.x, y, r.y), sums.times(w, r.w));
        }

        Triple common(Triple p, Triple q) {
            Triple made = cross(p, q);
            return isNull(made) ? null : made;
        }

        boolean isNull(Triple t) {
            return sums.isZero(t.x) && sums.isZero(t.y) && sums.isZero(t.w);
        }

        boolean areSame(Triple p, Triple q) {
            return sums.areEqual(sums.times(p.x, q.y), sums.times(p.y, q.x))
                    && sums.areEqual(sums.times(p.x, q.w), sums.times(p.w, q.x))
                    && sums.areEqual(sums.times(p.y, q.w), sums.times(p.w, q.y));
        }

        boolean isFar(Triple p) {
            return sums.isZero(p.w);
        }

        boolean isOneFar(Triple p, Triple q, Triple r) {
            return isFar(p) || isFar(q) || isFar(r);
        }

        boolean hasAllFar(Triple line) {
            return sums.isZero(line.x) && sums.isZero(line.y);
        }

        /** Lowest terms, the last that is not 0 above 0. */
        Triple lowest(Triple t) {
            Whole divisor = sums.commonDivisor(sums.commonDivisor(t.x, t.y), t.w);
            Whole last = sums.isZero(t.y) ? t.x : t.y;
            if (sums.sign(sums.isZero(t.w) ? last : t.w) < 0) {
                divisor = sums.negated(divisor);
            }
            return new Triple(sums.quotient(t.x, divisor), sums.quotient(t.y, divisor),
                    sums.quotient(t.w, divisor));
        }

        /** Lowest terms, K above 0. */
        Ring lowestRing(Ring ring) {
            Whole divisor = sums.commonDivisor(sums.commonDivisor(ring.k, ring.a),
                    sums.commonDivisor(ring.b, ring.c));
            if (sums.sign(ring.k) < 0) {
                divisor = sums.negated(divisor);
            }
            return new Ring(sums.quotient(ring.k, divisor), sums.quotient(ring.a, divisor),
                    sums.quotient(ring.b, divisor), sums.quotient(ring.c, divisor));
        }

        Triple middle(Triple p, Triple q) {
            if (isFar(p) || isFar(q)) {
                return null;
            }
            return new Triple(sums.added(p.x, q.w, q.x, p.w), sums.added(p.y, q.w, q.y, p.w),
                    sums.twice(sums.times(p.w, q.w)));
        }

        private Triple farSquareTo(Triple line) {
            return new Triple(line.x, line.y, sums.of(0));
        }

        Triple lineAlong(Triple p, Triple line) {
            if (hasAllFar(line)) {
                return null;
            }
            return common(p, new Triple(line.y, sums.negated(line.x), sums.of(0)));
        }

        Triple lineAcross(Triple p, Triple line) {
            return hasAllFar(line) ? null : common(p, farSquareTo(line));
        }

        Triple foot(Triple p, Triple line) {
            if (isFar(p) || hasAllFar(line)) {
                return null;
            }
            return cross(line, cross(p, farSquareTo(line)));
        }

        Triple mirrored(Triple p, Triple line) {
            Triple foot = foot(p, line);
            if (foot == null) {
                return null;
            }
            Whole doubled = sums.twice(p.w);
            return new Triple(sums.difference(foot.x, doubled, p.x, foot.w),
                    sums.difference(foot.y, doubled, p.y, foot.w), sums.times(foot.w, p.w));
        }

        Triple middleOfRing(Ring ring) {
            if (ring == null) {
                return null;
            }
            return new Triple(sums.negated(ring.a), sums.negated(ring.b), sums.twice(ring.k));
        }

        /** The polar cuts the line from the middle to p in the inverse. */
        Triple inverse(Triple p, Ring ring) {
            Triple middle = middleOfRing(ring);
            if (middle == null || isFar(p) || areSame(p, middle)) {
                return null;
            }
            return cross(polar(p, ring), cross(p, middle));
        }

        Triple polar(Triple p, Ring ring) {
            Whole doubled = sums.twice(ring.k);
            return new Triple(sums.added(doubled, p.x, ring.a, p.w),
                    sums.added(doubled, p.y, ring.b, p.w),
                    sums.plus(sums.added(ring.a, p.x, ring.b, p.y),
                            sums.times(sums.twice(ring.c), p.w)));
        }

        Triple pole(Triple line, Ring ring) {
            Whole atMiddle = twiceAtMiddle(line, ring);
            Whole spread = spread(ring);
            return new Triple(
                    sums.negated(sums.added(ring.a, atMiddle, spread, line.x)),
                    sums.negated(sums.added(ring.b, atMiddle, spread, line.y)),
                    sums.twice(sums.times(ring.k, atMiddle)));
        }

        /** What a line's equation gives at a circle's middle, times 2 K. */
        private Whole twiceAtMiddle(Triple line, Ring ring) {
            return sums.minus(sums.twice(sums.times(ring.k, line.w)),
                    sums.added(ring.a, line.x, ring.b, line.y));
        }

        /** A A + B B - 4 K C: the RADIUS squared, times 4 K K. */
        private Whole spread(Ring ring) {
            return sums.minus(sums.added(ring.a, ring.a, ring.b, ring.b),
                    sums.times(sums.twice(ring.k), sums.twice(ring.c)));
        }

        Triple powerLine(Ring p, Ring q) {
            Triple line = new Triple(sums.difference(q.k, p.a, p.k, q.a),
                    sums.difference(q.k, p.b, p.k, q.b), sums.difference(q.k, p.c, p.k, q.c));
            return hasAllFar(line) ? null : line;
        }

        /** Below, at, or above 0 as a line misses, touches, or cuts a circle. */
        Whole depth(Triple line, Ring ring) {
            Whole atMiddle = twiceAtMiddle(line, ring);
            return sums.difference(spread(ring), sums.added(line.x, line.x, line.y, line.y),
                    atMiddle, atMiddle);
        }

        /** From the foot of the middle on the line, by the root of the depth both ways along it. */
        Triple crossing(Triple line, Ring ring, boolean second) {
            Whole atMiddle = twiceAtMiddle(line, ring);
            Whole square = sums.added(line.x, line.x, line.y, line.y);
            Whole depth = sums.difference(spread(ring), square, atMiddle, atMiddle);
            Whole root = hasAllFar(line) ? null : sums.rootOf(depth);
            if (root == null) {
                return null;
            }
            Whole footX = sums.negated(sums.added(ring.a, square, atMiddle, line.x));
            Whole footY = sums.negated(sums.added(ring.b, square, atMiddle, line.y));
            Whole wayX = sums.times(root, line.y);
            Whole wayY = sums.negated(sums.times(root, line.x));
            int sign = sums.sign(wayX) != 0 ? sums.sign(wayX) : sums.sign(wayY);
            boolean ahead = second == sign > 0;
            Whole w = sums.twice(sums.times(ring.k, square));
            return new Triple(ahead ? sums.plus(footX, wayX) : sums.minus(footX, wayX),
                    ahead ? sums.plus(footY, wayY) : sums.minus(footY, wayY), w);
        }

        Triple ringCrossing(Ring p, Ring q, boolean second) {
            Triple line = powerLine(p, q);
            return line == null ? null : crossing(line, p, second);
        }

        /** The tangents through p are the polars of the places where p's polar cuts the circle. */
        Triple tangent(Triple p, Ring ring, boolean second) {
            if (isFar(p)) {
                return null;
            }
            Triple polar = polar(p, ring);
            Triple place = crossing(polar, ring, false);
            Triple otherPlace = crossing(polar, ring, true);
            if (place == null || otherPlace == null) {
                return null;
            }
            Triple line = lowest(polar(place, ring));
            Triple otherLine = lowest(polar(otherPlace, ring));
            boolean inOrder = order(line, otherLine) <= 0;
            return inOrder == second ? otherLine : line;
        }

        private int order(Triple p, Triple q) {
            int byX = sums.order(p.x, q.x);
            int byY = sums.order(p.y, q.y);
            if (byX != 0) {
                return byX;
            }
            return byY != 0 ? byY : sums.order(p.w, q.w);
        }

        /** The circle around p through q. */
        Ring ringAround(Triple p, Triple q) {
            if (isFar(p) || isFar(q) || areSame(p, q)) {
                return null;
            }
            Whole square = sums.times(q.w, q.w);
            Whole product = sums.added(p.x, q.x, p.y, q.y);
            Whole own = sums.added(q.x, q.x, q.y, q.y);
            return new Ring(sums.times(p.w, square),
                    sums.negated(sums.twice(sums.times(p.x, square))),
                    sums.negated(sums.twice(sums.times(p.y, square))),
                    sums.difference(sums.twice(q.w), product, p.w, own));
        }

        /** The circle with p and q as ends of a diameter. */
        Ring ringOver(Triple p, Triple q) {
            if (isFar(p) || isFar(q) || areSame(p, q)) {
                return null;
            }
            return new Ring(sums.times(p.w, q.w),
                    sums.negated(sums.added(p.x, q.w, q.x, p.w)),
                    sums.negated(sums.added(p.y, q.w, q.y, p.w)),
                    sums.added(p.x, q.x, p.y, q.y));
        }

        /** K, A, B, C such that the three equations K (x x + y y) + A x + B y + C = 0 hold. */
        Ring ringThrough(Triple p, Triple q, Triple r) {
            if (p == null || q == null || r == null || isOneFar(p, q, r)
                    || sums.isZero(determinant(p, q, r))) {
                return null;
            }
            Triple squares = new Triple(ownSquare(p), ownSquare(q), ownSquare(r));
            Triple xs = new Triple(sums.times(p.x, p.w), sums.times(q.x, q.w),
                    sums.times(r.x, r.w));
            Triple ys = new Triple(sums.times(p.y, p.w), sums.times(q.y, q.w),
                    sums.times(r.y, r.w));
            Triple ones = new Triple(sums.times(p.w, p.w), sums.times(q.w, q.w),
                    sums.times(r.w, r.w));
            return new Ring(determinant(xs, ys, ones), determinant(ys, squares, ones),
                    determinant(squares, xs, ones), determinant(xs, squares, ys));
        }

        private Whole ownSquare(Triple p) {
            return sums.added(p.x, p.x, p.y, p.y);
        }

        Triple middleOfThree(Triple p, Triple q, Triple r) {
            if (isOneFar(p, q, r)) {
                return null;
            }
            Whole product = sums.times(sums.times(p.w, q.w), r.w);
            return new Triple(overThree(p.x, p.w, q.x, q.w, r.x, r.w),
                    overThree(p.y, p.w, q.y, q.w, r.y, r.w),
                    sums.times(sums.of(3), product));
        }

        /** a / b + c / d + e / f, times b d f. */
        private Whole overThree(Whole a, Whole b, Whole c, Whole d, Whole e, Whole f) {
            return sums.added(sums.added(a, d, c, b), f, sums.times(b, d), e);
        }

        Triple heightsMeet(Triple p, Triple q, Triple r) {
            if (isOneFar(p, q, r) || sums.isZero(determinant(p, q, r))) {
                return null;
            }
            return cross(cross(p, farSquareTo(cross(q, r))), cross(q, farSquareTo(cross(r, p))));
        }

        /** With r = u p + v q, the fourth is u p - v q. */
        Triple fourthHarmonic(Triple p, Triple q, Triple r) {
            Triple line = cross(p, q);
            if (isOneFar(p, q, r) || isNull(line) || !sums.isZero(dot(line, r))
                    || areSame(p, r) || areSame(q, r)) {
                return null;
            }
            Whole u = bracket(r, q, line);
            Whole v = bracket(p, r, line);
            return new Triple(sums.difference(u, p.x, v, q.x), sums.difference(u, p.y, v, q.y),
                    sums.difference(u, p.w, v, q.w));
        }

        /** How often cross(p, q) has the line that p and q are on, but for a factor of the line. */
        Whole bracket(Triple p, Triple q, Triple line) {
            Triple crossed = cross(p, q);
            if (!sums.isZero(line.x)) {
                return crossed.x;
            }
            return sums.isZero(line.y) ? crossed.w : crossed.y;
        }

        /** r moved as p to q. */
        Triple moved(Triple p, Triple q, Triple r) {
            if (isOneFar(p, q, r)) {
                return null;
            }
            Whole product = sums.times(sums.times(p.w, q.w), r.w);
            return new Triple(overThree(sums.negated(p.x), p.w, q.x, q.w, r.x, r.w),
                    overThree(sums.negated(p.y), p.w, q.y, q.w, r.y, r.w), product);
        }

        /** r turned by a quarter to the left around p. */
        Triple turned(Triple p, Triple r) {
            if (isFar(p) || isFar(r)) {
                return null;
            }
            Whole wayX = sums.difference(r.x, p.w, p.x, r.w);
            Whole wayY = sums.difference(r.y, p.w, p.y, r.w);
            return new Triple(sums.minus(sums.times(p.x, r.w), wayY),
                    sums.plus(sums.times(p.y, r.w), wayX), sums.times(p.w, r.w));
        }

        /** r stretched from p by up / down. */
        Triple stretched(Triple p, Triple r, Whole up, Whole down) {
            if (isFar(p) || isFar(r)) {
                return null;
            }
            Whole wayX = sums.difference(r.x, p.w, p.x, r.w);
            Whole wayY = sums.difference(r.y, p.w, p.y, r.w);
            Whole scale = sums.times(r.w, down);
            return new Triple(sums.added(p.x, scale, up, wayX), sums.added(p.y, scale, up, wayY),
                    sums.times(p.w, scale));
        }

        /** Like all that follow, a quotient: x over w. */
        Triple squareOfWay(Triple p, Triple q) {
            if (isFar(p) || isFar(q)) {
                return null;
            }
            Whole wayX = sums.difference(p.x, q.w, q.x, p.w);
            Whole wayY = sums.difference(p.y, q.w, q.y, p.w);
            Whole w = sums.times(p.w, q.w);
            return quotient(sums.added(wayX, wayX, wayY, wayY), sums.times(w, w));
        }

        Triple squareOfWayToLine(Triple p, Triple line) {
            if (isFar(p) || hasAllFar(line)) {
                return null;
            }
            Whole product = dot(p, line);
            return quotient(sums.times(product, product),
                    sums.times(sums.times(p.w, p.w), sums.added(line.x, line.x, line.y, line.y)));
        }

        Triple twiceArea(Triple p, Triple q, Triple r) {
            if (isOneFar(p, q, r)) {
                return null;
            }
            return quotient(determinant(p, q, r), sums.times(sums.times(p.w, q.w), r.w));
        }

        Triple squareOfRadius(Ring ring) {
            Whole doubled = sums.twice(ring.k);
            return quotient(spread(ring), sums.times(doubled, doubled));
        }

        Triple powerOf(Triple p, Ring ring) {
            return quotient(inEquation(p, ring), sums.times(ring.k, sums.times(p.w, p.w)));
        }

        /** What a circle's equation gives at p, times W W. */
        Whole inEquation(Triple p, Ring ring) {
            Whole linear = sums.plus(sums.added(ring.a, p.x, ring.b, p.y),
                    sums.times(ring.c, p.w));
            return sums.added(ring.k, sums.added(p.x, p.x, p.y, p.y), linear, p.w);
        }

        private Triple quotient(Whole up, Whole down) {
            return new Triple(up, up, down);
        }
    }

    /** The THINGS. */
    private static final class Things {
        static final long SMALL = 1L << 20;
        static final int ROOM = 100;

        private final Sums sums;
        private final Plane plane;
        private final int[] sorts;
        private final long[] parts;
        int many;

        Things(Sums sums, Plane plane) {
            this.sums = sums;
            this.plane = plane;
            sorts = new int[ROOM];
            parts = new long[4 * ROOM];
            many = 0;
        }

        int sortOf(int t) {
            return t < 0 || t >= many || t >= ROOM ? UNKNOWN : sorts[t];
        }

        long partOf(int t, int i) {
            return sortOf(t) < 0 || i < 0 || i > 3 ? 0 : parts[4 * t + i];
        }

        private Whole wholeAt(int t, int i) {
            return sums.of(partOf(t, i));
        }

        Triple tripleOf(int t) {
            return new Triple(wholeAt(t, 0), wholeAt(t, 1), wholeAt(t, 2));
        }

        Ring ringOf(int t) {
            return new Ring(wholeAt(t, 0), wholeAt(t, 1), wholeAt(t, 2), wholeAt(t, 3));
        }

        int keepTriple(int sort, Triple made) {
            if (made == null) {
                return NOTHING;
            }
            Triple low = plane.lowest(made);
            return keep(sort, low.x, low.y, low.w, sums.of(0));
        }

        int keepRing(Ring made) {
            if (made == null) {
                return NOTHING;
            }
            Ring low = plane.lowestRing(made);
            return keep(CIRCLE, low.k, low.a, low.b, low.c);
        }

        private int keep(int sort, Whole a, Whole b, Whole c, Whole d) {
            if (!sums.isWithin(a, SMALL) || !sums.isWithin(b, SMALL) || !sums.isWithin(c, SMALL)
                    || !sums.isWithin(d, SMALL) || many < 0 || many >= ROOM) {
                return NO_ROOM;
            }
            sorts[many] = sort;
            parts[4 * many] = sums.longOf(a);
            parts[4 * many + 1] = sums.longOf(b);
            parts[4 * many + 2] = sums.longOf(c);
            parts[4 * many + 3] = sums.longOf(d);
            many++;
            return many - 1;
        }
    }

    /** Whether a STATEMENT of THINGS is so. */
    private static final class Statements {
        private final Sums sums;
        private final Plane plane;
        private final Things things;

        Statements(Sums sums, Plane plane, Things things) {
            this.sums = sums;
            this.plane = plane;
            this.things = things;
        }

        boolean isSo(int kind, int a, int b, int c, int d) {
            switch (kind) {
                case 3:
                    return isOnRing(things.tripleOf(a), things.ringOf(b));
                case 6:
                    return areAsFar(a, b, c, d);
                case 7:
                    return areOnOneRing(a, b, c, d);
                case 8:
                    return touches(things.tripleOf(a), things.ringOf(b));
                case 9:
                    return ringsTouch(things.ringOf(a), things.ringOf(b));
                case 10:
                    return areRingsSquare(things.ringOf(a), things.ringOf(b));
                case 11:
                    return turnsLeft(things.tripleOf(a), things.tripleOf(b), things.tripleOf(c));
                case 12:
                    return isWithin(things.tripleOf(a), things.ringOf(b));
                case 13:
                    return isPoleOn(things.tripleOf(a), things.tripleOf(b), things.ringOf(c));
                case 14:
                    return areHarmonic(a, b, c, d);
                default:
                    return isSoOfTriples(kind, a, b, c);
            }
        }

        private boolean isSoOfTriples(int kind, int a, int b, int c) {
            Triple p = things.tripleOf(a);
            Triple q = things.tripleOf(b);
            switch (kind) {
                case 2:
                    return sums.isZero(plane.dot(p, q));
                case 4:
                    return sums.areEqual(sums.times(p.x, q.y), sums.times(p.y, q.x));
                case 5:
                    return !plane.hasAllFar(p) && !plane.hasAllFar(q)
                            && sums.isZero(sums.added(p.x, q.x, p.y, q.y));
                default:
                    return sums.isZero(plane.determinant(p, q, things.tripleOf(c)));
            }
        }

        private boolean isOnRing(Triple p, Ring ring) {
            return !plane.isFar(p) && sums.isZero(plane.inEquation(p, ring));
        }

        private boolean isWithin(Triple p, Ring ring) {
            return !plane.isFar(p) && sums.sign(plane.inEquation(p, ring)) < 0;
        }

        private boolean turnsLeft(Triple p, Triple q, Triple r) {
            return !plane.isOneFar(p, q, r) && sums.sign(plane.determinant(p, q, r)) > 0;
        }

        private boolean areAsFar(int a, int b, int c, int d) {
            Triple way = plane.squareOfWay(things.tripleOf(a), things.tripleOf(b));
            Triple otherWay = plane.squareOfWay(things.tripleOf(c), things.tripleOf(d));
            if (way == null || otherWay == null) {
                return false;
            }
            return sums.areEqual(sums.times(way.x, otherWay.w), sums.times(otherWay.x, way.w));
        }

        private boolean areApart(Triple p, Triple q, Triple r, Triple t) {
            return !plane.areSame(p, q) && !plane.areSame(p, r) && !plane.areSame(p, t)
                    && !plane.areSame(q, r) && !plane.areSame(q, t) && !plane.areSame(r, t);
        }

        private boolean areOnOneRing(int a, int b, int c, int d) {
            Triple p = things.tripleOf(a);
            Triple q = things.tripleOf(b);
            Triple r = things.tripleOf(c);
            Triple t = things.tripleOf(d);
            Ring ring = plane.ringThrough(p, q, r);
            return ring != null && areApart(p, q, r, t) && isOnRing(t, ring);
        }

        private boolean touches(Triple line, Ring ring) {
            return !plane.hasAllFar(line) && sums.isZero(plane.depth(line, ring));
        }

        private boolean ringsTouch(Ring p, Ring q) {
            Triple line = plane.powerLine(p, q);
            return line != null && sums.isZero(plane.depth(line, p));
        }

        /** The square of the way of the middles is the sum of both RADII squared. */
        private boolean areRingsSquare(Ring p, Ring q) {
            return sums.areEqual(sums.added(p.a, q.a, p.b, q.b),
                    sums.twice(sums.added(p.c, q.k, q.c, p.k)));
        }

        private boolean isPoleOn(Triple line, Triple other, Ring ring) {
            return sums.isZero(plane.dot(plane.pole(line, ring), other));
        }

        private boolean areHarmonic(int a, int b, int c, int d) {
            Triple p = things.tripleOf(a);
            Triple q = things.tripleOf(b);
            Triple r = things.tripleOf(c);
            Triple t = things.tripleOf(d);
            Triple line = plane.cross(p, q);
            if (!areApart(p, q, r, t) || !sums.isZero(plane.dot(line, r))
                    || !sums.isZero(plane.dot(line, t))) {
                return false;
            }
            return sums.isZero(sums.added(plane.bracket(p, r, line), plane.bracket(q, t, line),
                    plane.bracket(p, t, line), plane.bracket(q, r, line)));
        }
    }

    /** The POLYGONS. */
    private static final class Polygons {
        static final int ROOM = 12;
        static final int CORNERS = 12;
        static final int FARTHEST = 1000;

        private final int[] xs;
        private final int[] ys;
        private final int[] sizes;
        // The corners of the last one that was wrapped, and the ways of parts of it.
        private final int[] wrap;
        private final long[] ways;
        int many;

        Polygons() {
            xs = new int[ROOM * CORNERS];
            ys = new int[ROOM * CORNERS];
            sizes = new int[ROOM];
            wrap = new int[CORNERS];
            ways = new long[CORNERS * CORNERS];
            many = 0;
        }

        boolean has(int p) {
            return p >= 0 && p < many && p < ROOM;
        }

        private int sizeOf(int p) {
            return has(p) ? sizes[p] : 0;
        }

        private int xOf(int p, int i) {
            int at = p * CORNERS + i;
            return i < 0 || i >= CORNERS || at < 0 || at >= xs.length ? 0 : xs[at];
        }

        private int yOf(int p, int i) {
            int at = p * CORNERS + i;
            return i < 0 || i >= CORNERS || at < 0 || at >= ys.length ? 0 : ys[at];
        }

        int begin() {
            if (many < 0 || many >= ROOM) {
                return NO_ROOM;
            }
            sizes[many] = 0;
            many++;
            return many - 1;
        }

        int add(int p, int x, int y) {
            if (!has(p)) {
                return UNKNOWN;
            }
            if (x < -FARTHEST || x > FARTHEST || y < -FARTHEST || y > FARTHEST) {
                return OUT_OF_RANGE;
            }
            int size = sizes[p];
            if (size < 0 || size >= CORNERS) {
                return NO_ROOM;
            }
            xs[p * CORNERS + size] = x;
            ys[p * CORNERS + size] = y;
            sizes[p] = size + 1;
            return size + 1;
        }

        long tell(int p, int what) {
            switch (what) {
                case 0:
                    return sizeOf(p);
                case 1:
                    return isSimple(p) ? 1 : 0;
                case 2:
                    return twiceArea(p);
                case 3:
                    return wrap(p);
                case 4:
                    return isSimple(p) && turnsOneWay(p) ? 1 : 0;
                case 5:
                    return isSimple(p) ? placesIn(p) : NOTHING;
                case 6:
                    return isSimple(p) ? placesOn(p) : NOTHING;
                case 7:
                    return isSimple(p) ? triangulations(p) : NOTHING;
                default:
                    return greatestSquare(p);
            }
        }

        private int after(int p, int i) {
            return i + 1 < sizeOf(p) ? i + 1 : 0;
        }

        private boolean isSamePlace(int p, int a, int b) {
            return xOf(p, a) == xOf(p, b) && yOf(p, a) == yOf(p, b);
        }

        /** Above 0 if corner c is to the left of the way from a to b, 0 on its line. */
        private int turn(int p, int a, int b, int c) {
            return (xOf(p, b) - xOf(p, a)) * (yOf(p, c) - yOf(p, a))
                    - (yOf(p, b) - yOf(p, a)) * (xOf(p, c) - xOf(p, a));
        }

        private int squareOfWay(int p, int a, int b) {
            int x = xOf(p, b) - xOf(p, a);
            int y = yOf(p, b) - yOf(p, a);
            return x * x + y * y;
        }

        private static boolean isBetween(int low, int v, int high) {
            return Math.min(low, high) <= v && v <= Math.max(low, high);
        }

        /** Whether corner c is on the way from a to b, its ends too. */
        private boolean isOnWay(int p, int a, int b, int c) {
            return turn(p, a, b, c) == 0 && isBetween(xOf(p, a), xOf(p, c), xOf(p, b))
                    && isBetween(yOf(p, a), yOf(p, c), yOf(p, b));
        }

        private static boolean areOpposite(int v, int w) {
            return v < 0 && w > 0 || v > 0 && w < 0;
        }

        /** Whether the ways a b and c d have a place in common. */
        private boolean meet(int p, int a, int b, int c, int d) {
            if (areOpposite(turn(p, a, b, c), turn(p, a, b, d))
                    && areOpposite(turn(p, c, d, a), turn(p, c, d, b))) {
                return true;
            }
            return isOnWay(p, a, b, c) || isOnWay(p, a, b, d)
                    || isOnWay(p, c, d, a) || isOnWay(p, c, d, b);
        }

        boolean isSimple(int p) {
            int size = sizeOf(p);
            if (size < 3) {
                return false;
            }
            for (int i = 0; i < size; i++) {
                for (int j = i + 1; j < size; j++) {
                    if (isSamePlace(p, i, j) || areSidesAtOdds(p, i, j)) {
                        return false;
                    }
                }
            }
            return true;
        }

        /** Whether the sides behind corners i and j have a place that they may not have. */
        private boolean areSidesAtOdds(int p, int i, int j) {
            if (after(p, i) == j) {
                return goesBack(p, i, j, after(p, j));
            }
            if (after(p, j) == i) {
                return goesBack(p, j, i, after(p, i));
            }
            return meet(p, i, after(p, i), j, after(p, j));
        }

        /** Whether the way from b to c goes back over the way from a to b. */
        private boolean goesBack(int p, int a, int b, int c) {
            int product = (xOf(p, a) - xOf(p, b)) * (xOf(p, c) - xOf(p, b))
                    + (yOf(p, a) - yOf(p, b)) * (yOf(p, c) - yOf(p, b));
            return turn(p, a, b, c) == 0 && product > 0;
        }

        private long twiceArea(int p) {
            long sum = 0;
            for (int i = 0; i < sizeOf(p); i++) {
                int j = after(p, i);
                sum += (long) xOf(p, i) * yOf(p, j) - (long) xOf(p, j) * yOf(p, i);
            }
            return sum;
        }

        private boolean turnsOneWay(int p) {
            boolean left = false;
            boolean right = false;
            for (int i = 0; i < sizeOf(p); i++) {
                int j = after(p, i);
                int turn = turn(p, i, j, after(p, j));
                left = left || turn > 0;
                right = right || turn < 0;
            }
            return !left || !right;
        }

        private long greatestSquare(int p) {
            long greatest = 0;
            for (int i = 0; i < sizeOf(p); i++) {
                for (int j = i + 1; j < sizeOf(p); j++) {
                    greatest = Math.max(greatest, squareOfWay(p, i, j));
                }
            }
            return greatest;
        }

        private long placesOn(int p) {
            long sum = 0;
            for (int i = 0; i < sizeOf(p); i++) {
                int j = after(p, i);
                sum += Numbers.commonDivisor(xOf(p, j) - xOf(p, i), yOf(p, j) - yOf(p, i));
            }
            return sum;
        }

        /** By Pick's rule: the area is the places IN, and half of those ON, less 1. */
        private long placesIn(int p) {
            return (Math.abs(twiceArea(p)) - placesOn(p) + 2) / 2;
        }

        /** 2 IN, 1 ON, 0 OUT: where x / w, y / w is to a SIMPLE one, w above 0. */
        int whereIs(int p, long x, long y, long w) {
            boolean in = false;
            for (int i = 0; i < sizeOf(p); i++) {
                int j = after(p, i);
                long fromX = x - xOf(p, i) * w;
                long fromY = y - yOf(p, i) * w;
                long toX = x - xOf(p, j) * w;
                long toY = y - yOf(p, j) * w;
                long side = (xOf(p, j) - xOf(p, i)) * fromY - (yOf(p, j) - yOf(p, i)) * fromX;
                if (side == 0 && !areOneSign(fromX, toX) && !areOneSign(fromY, toY)) {
                    return 1;
                }
                boolean goesUp = toY < 0;
                if (fromY < 0 != goesUp && side > 0 == goesUp) {
                    in = !in;
                }
            }
            return in ? 2 : 0;
        }

        private static boolean areOneSign(long v, long w) {
            return v < 0 && w < 0 || v > 0 && w > 0;
        }

        /** Puts the corners of the least convex one around all into wrap; how many. */
        int wrap(int p) {
            int first = leastCorner(p);
            int here = first;
            int found = 0;
            for (int turn = 0; turn < CORNERS && here >= 0; turn++) {
                wrap[found] = here;
                found++;
                int next = nextOnWrap(p, here);
                here = next < 0 || isSamePlace(p, next, first) ? -1 : next;
            }
            return found;
        }

        private int leastCorner(int p) {
            int least = sizeOf(p) > 0 ? 0 : -1;
            for (int i = 1; i < sizeOf(p); i++) {
                if (xOf(p, i) < xOf(p, least)
                        || xOf(p, i) == xOf(p, least) && yOf(p, i) < yOf(p, least)) {
                    least = i;
                }
            }
            return least;
        }

        /** The farthest corner with no other to the right of the way to it; -1 if there is none. */
        private int nextOnWrap(int p, int here) {
            int best = -1;
            for (int i = 0; i < sizeOf(p); i++) {
                if (!isSamePlace(p, here, i) && (best < 0 || isBetterOnWrap(p, here, best, i))) {
                    best = i;
                }
            }
            return best;
        }

        private boolean isBetterOnWrap(int p, int here, int best, int i) {
            int turn = turn(p, here, best, i);
            return turn < 0
                    || turn == 0 && squareOfWay(p, here, i) > squareOfWay(p, here, best);
        }

        private int wrapAt(int i) {
            return i < 0 || i >= wrap.length ? -1 : wrap[i];
        }

        int xOfWrap(int p, int i) {
            return xOf(p, wrapAt(i));
        }

        int yOfWrap(int p, int i) {
            return yOf(p, wrapAt(i));
        }

        /** The part behind a side or diagonal i j has one triangle on it, with a corner between. */
        private long triangulations(int p) {
            int size = sizeOf(p);
            for (int apart = 1; apart < size; apart++) {
                for (int i = 0; i + apart < size; i++) {
                    int j = i + apart;
                    long sum = apart == 1 ? 1 : 0;
                    for (int k = i + 1; k < j; k++) {
                        sum += waysOf(i, k) * waysOf(k, j);
                    }
                    boolean isSide = apart == 1 || apart == size - 1;
                    keepWays(i, j, isSide || sum > 0 && isDiagonal(p, i, j) ? sum : 0);
                }
            }
            return waysOf(0, size - 1);
        }

        private long waysOf(int i, int j) {
            int at = i * CORNERS + j;
            return at < 0 || at >= ways.length ? 0 : ways[at];
        }

        private void keepWays(int i, int j, long found) {
            int at = i * CORNERS + j;
            if (at >= 0 && at < ways.length) {
                ways[at] = found;
            }
        }

        /** Whether the way between two corners that are no neighbours lies within a SIMPLE one. */
        private boolean isDiagonal(int p, int a, int b) {
            for (int c = 0; c < sizeOf(p); c++) {
                int d = after(p, c);
                if (c != a && c != b && isOnWay(p, a, b, c)) {
                    return false;
                }
                boolean isApart = c != a && c != b && d != a && d != b;
                if (isApart && meet(p, a, b, c, d)) {
                    return false;
                }
            }
            return whereIs(p, xOf(p, a) + xOf(p, b), yOf(p, a) + yOf(p, b), 2) == 2;
        }
    }

    /** The POLYNOMIALS: rows of coefficients, by exponents i, then j, then k, going up. */
    private static final class Polynomials {
        static final int ROOM = 60;
        static final int DEGREE = 10;
        static final int WIDTH = DEGREE + 1;
        static final int TERMS = 286;
        static final long SMALL = 1L << 26;

        private final int[] firsts;
        private final int[] seconds;
        private final int[] thirds;
        // Where the coefficients with exponents i, j begin, by i and j.
        private final int[] begins;
        private final long[][] kept;
        private final long[] result;
        private final long[] power;
        private final long[] product;
        private final long[] part;
        int many;

        Polynomials() {
            firsts = new int[TERMS];
            seconds = new int[TERMS];
            thirds = new int[TERMS];
            begins = new int[WIDTH * WIDTH];
            kept = new long[ROOM][];
            result = new long[TERMS];
            power = new long[TERMS];
            product = new long[TERMS];
            part = new long[TERMS];
            many = 0;
            int at = 0;
            for (int i = 0; i <= DEGREE; i++) {
                for (int j = 0; i + j <= DEGREE; j++) {
                    begins[i * WIDTH + j] = at;
                    for (int k = 0; i + j + k <= DEGREE && at < TERMS; k++) {
                        firsts[at] = i;
                        seconds[at] = j;
                        thirds[at] = k;
                        at++;
                    }
                }
            }
        }

        boolean has(int a) {
            return a >= 0 && a < many && a < ROOM && kept[a] != null;
        }

        private int indexOf(int i, int j, int k) {
            if (i < 0 || j < 0 || k < 0 || i > DEGREE || j > DEGREE - i || k > DEGREE - i - j) {
                return -1;
            }
            return begins[i * WIDTH + j] + k;
        }

        long coefficientOf(int a, int i, int j, int k) {
            int at = indexOf(i, j, k);
            return at < 0 || at >= TERMS || !has(a) ? 0 : kept[a][at];
        }

        private void clear(long[] row) {
            for (int i = 0; i < TERMS; i++) {
                row[i] = 0;
            }
        }

        private void copy(long[] from, long[] to) {
            for (int i = 0; i < TERMS; i++) {
                to[i] = from[i];
            }
        }

        private boolean areSmall(long[] row) {
            for (int i = 0; i < TERMS; i++) {
                if (row[i] < -SMALL || row[i] > SMALL) {
                    return false;
                }
            }
            return true;
        }

        /** -1 of a row without anything. */
        private int degreeOf(long[] row) {
            int degree = -1;
            for (int i = 0; i < TERMS; i++) {
                if (row[i] != 0) {
                    degree = Math.max(degree, firsts[i] + seconds[i] + thirds[i]);
                }
            }
            return degree;
        }

        private int keepResult() {
            if (many < 0 || many >= ROOM) {
                return NO_ROOM;
            }
            long[] row = new long[TERMS];
            copy(result, row);
            kept[many] = row;
            many++;
            return many - 1;
        }

        int keepSingle(long v, int unknown) {
            if (v < -SMALL || v > SMALL) {
                return NO_ROOM;
            }
            clear(result);
            int at = indexOf(unknown == 0 ? 1 : 0, unknown == 1 ? 1 : 0, unknown == 2 ? 1 : 0);
            if (at >= 0 && at < TERMS) {
                result[at] = v;
            }
            return keepResult();
        }

        int keepCombined(int op, int a, int b) {
            if (!has(a) || !has(b)) {
                return UNKNOWN;
            }
            boolean small;
            if (op < 2) {
                copy(kept[a], result);
                small = add(result, kept[b], op == 0 ? 1 : -1);
            } else if (op == 2) {
                small = multiply(kept[a], kept[b], result);
            } else if (op == 3) {
                small = putIn(kept[a], kept[b]);
            } else {
                small = derive(kept[a]);
            }
            return small ? keepResult() : NO_ROOM;
        }

        private boolean add(long[] sum, long[] more, int sign) {
            for (int i = 0; i < TERMS; i++) {
                sum[i] += sign * more[i];
            }
            return areSmall(sum);
        }

        /** Whether the product is within the bounds; only then it is whole. */
        private boolean multiply(long[] a, long[] b, long[] made) {
            clear(made);
            int degree = degreeOf(a);
            int otherDegree = degreeOf(b);
            if (degree < 0 || otherDegree < 0) {
                return true;
            }
            if (degree + otherDegree > DEGREE) {
                return false;
            }
            for (int p = 0; p < TERMS; p++) {
                for (int q = 0; a[p] != 0 && q < TERMS; q++) {
                    int at = b[q] == 0 ? -1 : indexOf(firsts[p] + firsts[q],
                            seconds[p] + seconds[q], thirds[p] + thirds[q]);
                    if (at >= 0 && at < TERMS) {
                        made[at] += a[p] * b[q];
                    }
                }
            }
            return areSmall(made);
        }

        /** a with b in place of the first unknown, as the result. */
        private boolean putIn(long[] a, long[] b) {
            int greatest = 0;
            for (int i = 0; i < TERMS; i++) {
                greatest = a[i] != 0 ? Math.max(greatest, firsts[i]) : greatest;
            }
            clear(result);
            clear(power);
            power[0] = 1;
            for (int exponent = 0; exponent <= greatest; exponent++) {
                takePart(a, exponent);
                if (!multiply(part, power, product) || !add(result, product, 1)) {
                    return false;
                }
                if (exponent < greatest) {
                    if (!multiply(power, b, product)) {
                        return false;
                    }
                    copy(product, power);
                }
            }
            return true;
        }

        /** Puts what a has with that exponent of the first unknown into part, without that. */
        private void takePart(long[] a, int exponent) {
            clear(part);
            for (int i = 0; i < TERMS; i++) {
                int at = firsts[i] == exponent ? indexOf(0, seconds[i], thirds[i]) : -1;
                if (at >= 0 && at < TERMS) {
                    part[at] = a[i];
                }
            }
        }

        private boolean derive(long[] a) {
            clear(result);
            for (int i = 0; i < TERMS; i++) {
                int at = indexOf(firsts[i] - 1, seconds[i], thirds[i]);
                if (at >= 0 && at < TERMS) {
                    result[at] = a[i] * firsts[i];
                }
            }
            return areSmall(result);
        }

        boolean areSame(int a, int b) {
            if (!has(a) || !has(b)) {
                return false;
            }
            for (int i = 0; i < TERMS; i++) {
                if (kept[a][i] != kept[b][i]) {
                    return false;
                }
            }
            return true;
        }

        int keepValue(int a, Numbers numbers, int x, int y, int z) {
            if (!has(a)) {
                return UNKNOWN;
            }
            long up = 0;
            long down = 1;
            for (int i = 0; i < TERMS; i++) {
                if (kept[a][i] != 0) {
                    if (!numbers.reduce(kept[a][i], 1) || !numbers.multiplyOften(x, firsts[i])
                            || !numbers.multiplyOften(y, seconds[i])
                            || !numbers.multiplyOften(z, thirds[i])
                            || !numbers.reduce(up * numbers.down + numbers.up * down,
                                    down * numbers.down)) {
                        return NO_ROOM;
                    }
                    up = numbers.up;
                    down = numbers.down;
                }
            }
            return numbers.keep(up, down);
        }
    }

    /** BOARDS and CELL FIGURES. */
    private static final class Cells {
        static final int MOST = 8;
        // The figures grow from a least cell at x = 0, y = 0: x from -8 to 8, y from 0 to 8.
        static final int WIDE = 17;
        static final int START = 8;
        static final int HIGH = 9;
        static final int WAITING = 64;
        static final int FRAME = 10;
        static final int STATES = 6561;

        // How often each state of the columns comes about; made by the first board.
        private long[] ways;
        private long[] nextWays;
        private int wide;
        private int high;
        private long gone;
        private int length;

        private final boolean[] seen;
        private final int[] waiting;
        private final int[] chosen;
        private final boolean[] reached;
        private final int[] toVisit;
        // The answers so far, by kind and cells; -1 where there is none yet.
        private final int[] known;
        private int wantedKind;
        private int wantedCells;

        Cells() {
            ways = null;
            nextWays = null;
            seen = new boolean[WIDE * HIGH];
            waiting = new int[WAITING];
            chosen = new int[MOST];
            reached = new boolean[FRAME * FRAME];
            toVisit = new int[FRAME * FRAME];
            known = new int[4 * MOST];
            for (int i = 0; i < known.length; i++) {
                known[i] = -1;
            }
        }

        /**
         * Cell after cell; a state has for each column a digit: how many cells of it, from the
         * next one on, are covered by pieces laid before.
         */
        long waysToLay(int w, int l, long without, int pieceLength) {
            wide = w;
            high = l;
            gone = without;
            length = pieceLength;
            if (ways == null || nextWays == null) {
                ways = new long[STATES];
                nextWays = new long[STATES];
            }
            int states = 1;
            for (int x = 0; x < w; x++) {
                states *= length;
            }
            for (int s = 0; s < states && s < STATES; s++) {
                ways[s] = 0;
            }
            ways[0] = 1;
            for (int y = 0; y < l; y++) {
                int unit = 1;
                for (int x = 0; x < w; x++) {
                    layCell(x, y, unit, states);
                    unit *= length;
                }
            }
            return ways[0];
        }

        private boolean isGone(int x, int y) {
            return x < 0 || y < 0 || x >= wide || y >= high || (gone >>> 8 * y + x & 1) != 0;
        }

        private void layCell(int x, int y, int unit, int states) {
            for (int s = 0; s < states && s < STATES; s++) {
                nextWays[s] = 0;
            }
            boolean isOut = isGone(x, y);
            boolean hasRoomUp = true;
            for (int i = 1; i < length; i++) {
                hasRoomUp = hasRoomUp && !isGone(x, y + i);
            }
            for (int s = 0; s < states && s < STATES; s++) {
                if (ways[s] == 0) {
                    continue;
                }
                if (digit(s, unit) > 0) {
                    addWays(s - unit, ways[s]);
                } else if (isOut) {
                    addWays(s, ways[s]);
                } else {
                    if (hasRoomUp) {
                        addWays(s + (length - 1) * unit, ways[s]);
                    }
                    addWays(stateWithAcross(s, x, y, unit), ways[s]);
                }
            }
            long[] swapped = ways;
            ways = nextWays;
            nextWays = swapped;
        }

        private int digit(int state, int unit) {
            return unit <= 0 || length <= 0 ? 0 : state / unit % length;
        }

        private void addWays(int state, long more) {
            if (state >= 0 && state < STATES) {
                nextWays[state] += more;
            }
        }

        /** The state after a piece from x, y to the right; -1 if it has no room. */
        private int stateWithAcross(int state, int x, int y, int unit) {
            int made = state;
            int place = unit;
            for (int i = 1; i < length; i++) {
                place *= length;
                if (isGone(x + i, y) || digit(state, place) > 0) {
                    return -1;
                }
                made += place;
            }
            return made;
        }

        int howManyFigures(int kind, int n) {
            int at = kind * MOST + n - 1;
            if (at < 0 || at >= known.length || n < 1 || n > MOST) {
                return 0;
            }
            if (known[at] < 0) {
                wantedKind = kind;
                wantedCells = n;
                for (int i = 0; i < seen.length; i++) {
                    seen[i] = false;
                }
                seen[START] = true;
                waiting[0] = START;
                known[at] = grow(this, 0, 0, 1);
            }
            return known[at];
        }

        /**
         * How many wanted figures have the cells chosen so far and, next of those waiting, one
         * from here on: each figure comes once, as a cell passed over is not taken later.
         */
        private static int grow(Cells cells, int placed, int from, int to) {
            int found = 0;
            if (placed < 0 || placed >= MOST) {
                return 0;
            }
            for (int i = from; i < to && i < WAITING; i++) {
                cells.chosen[placed] = cells.waiting[i];
                if (placed + 1 == cells.wantedCells) {
                    found += cells.isWanted() ? 1 : 0;
                } else {
                    int end = cells.addNeighbours(cells.waiting[i], to);
                    found += grow(cells, placed + 1, i + 1, end);
                    cells.forget(to, end);
                }
            }
            return found;
        }

        private int addNeighbours(int cell, int to) {
            int x = cell % WIDE;
            int y = cell / WIDE;
            int end = addCell(x + 1, y, to);
            end = addCell(x, y + 1, end);
            end = addCell(x - 1, y, end);
            return addCell(x, y - 1, end);
        }

        private int addCell(int x, int y, int end) {
            boolean isBeforeStart = y < 0 || y == 0 && x < START;
            if (isBeforeStart || x < 0 || x >= WIDE || y >= HIGH || end < 0 || end >= WAITING
                    || seen[y * WIDE + x]) {
                return end;
            }
            seen[y * WIDE + x] = true;
            waiting[end] = y * WIDE + x;
            return end + 1;
        }

        private void forget(int from, int to) {
            for (int i = from; i >= 0 && i < to && i < WAITING; i++) {
                int cell = waiting[i];
                if (cell >= 0 && cell < seen.length) {
                    seen[cell] = false;
                }
            }
        }

        private boolean isWanted() {
            if (wantedKind == 0) {
                return true;
            }
            return wantedKind == 3 ? hasHole() : isLeastImage();
        }

        /** One of all turned, or also mirrored, images of a figure stands for them. */
        private boolean isLeastImage() {
            long own = image(0, false);
            for (int quarters = 0; quarters < 4; quarters++) {
                if (image(quarters, false) < own
                        || wantedKind == 2 && image(quarters, true) < own) {
                    return false;
                }
            }
            return true;
        }

        /** The figure turned, or mirrored and turned, moved to the corner, as bits 8 y + x. */
        private long image(int quarters, boolean mirrored) {
            int leastX = WIDE;
            int leastY = WIDE;
            for (int i = 0; i < wantedCells && i < MOST; i++) {
                leastX = Math.min(leastX, imageX(chosen[i], quarters, mirrored));
                leastY = Math.min(leastY, imageX(chosen[i], quarters + 3, mirrored));
            }
            long bits = 0;
            for (int i = 0; i < wantedCells && i < MOST; i++) {
                int x = imageX(chosen[i], quarters, mirrored) - leastX;
                int y = imageX(chosen[i], quarters + 3, mirrored) - leastY;
                bits |= 1L << 8 * y + x;
            }
            return bits;
        }

        /** The x of a cell's image; its y is the x that it has three quarters further. */
        private static int imageX(int cell, int quarters, boolean mirrored) {
            int x = mirrored ? START - cell % WIDE : cell % WIDE - START;
            int y = cell / WIDE;
            int axis = quarters % 2 == 0 ? x : y;
            return quarters % 4 == 0 || quarters % 4 == 3 ? axis : -axis;
        }

        /** Whether a cell of a frame around the figure cannot be reached from the frame's edge. */
        private boolean hasHole() {
            for (int i = 0; i < reached.length; i++) {
                reached[i] = false;
            }
            int leastX = WIDE;
            for (int i = 0; i < wantedCells && i < MOST; i++) {
                leastX = Math.min(leastX, chosen[i] % WIDE);
            }
            for (int i = 0; i < wantedCells && i < MOST; i++) {
                reach(chosen[i] % WIDE - leastX + 1, chosen[i] / WIDE + 1, 0);
            }
            int end = reach(0, 0, 0);
            for (int i = 0; i < end && i < toVisit.length; i++) {
                int x = toVisit[i] % FRAME;
                int y = toVisit[i] / FRAME;
                end = reach(x + 1, y, end);
                end = reach(x - 1, y, end);
                end = reach(x, y + 1, end);
                end = reach(x, y - 1, end);
            }
            return end + wantedCells < FRAME * FRAME;
        }

        private int reach(int x, int y, int end) {
            if (x < 0 || y < 0 || x >= FRAME || y >= FRAME || end < 0 || end >= toVisit.length
                    || reached[y * FRAME + x]) {
                return end;
            }
            reached[y * FRAME + x] = true;
            toVisit[end] = y * FRAME + x;
            return end + 1;
        }
    }
}
