import java.math.BigInteger;
import java.util.ArrayList;
import java.util.List;

/**
 * Another way to the answers of NUMBERS and THINGS, by fractions without bounds: places and slopes
 * in place of rows of whole numbers, elimination and quadratic equations in place of products.
 */
final class Oracle {
    static final int UNKNOWN = -1;
    static final int NOTHING = -3;
    static final int NO_ROOM = -4;

    final List<Q> numbers = new ArrayList<>();
    final List<Thing> things = new ArrayList<>();

    static final class Thing {
        final int sort;
        final BigInteger[] parts;

        Thing(int sort, Q... parts) {
            this.sort = sort;
            BigInteger down = BigInteger.ONE;
            for (Q q : parts) {
                down = down.multiply(q.d).divide(down.gcd(q.d));
            }
            BigInteger[] whole = new BigInteger[parts.length];
            BigInteger divisor = BigInteger.ZERO;
            int sign = 0;
            for (int i = 0; i < parts.length; i++) {
                whole[i] = parts[i].n.multiply(down.divide(parts[i].d));
                divisor = divisor.gcd(whole[i]);
                sign = whole[i].signum() != 0 ? whole[i].signum() : sign;
            }
            sign = sort == 2 ? whole[0].signum() : sign;
            for (int i = 0; i < parts.length; i++) {
                whole[i] = whole[i].divide(divisor).multiply(BigInteger.valueOf(sign));
            }
            this.parts = whole;
        }

        Q part(int i) {
            return new Q(parts[i], BigInteger.ONE);
        }

        boolean isFar() {
            return sort == 0 && parts[2].signum() == 0;
        }

        boolean hasAllFar() {
            return sort == 1 && parts[0].signum() == 0 && parts[1].signum() == 0;
        }

        Q x() {
            return new Q(parts[0], parts[2]);
        }

        Q y() {
            return new Q(parts[1], parts[2]);
        }

        // of a circle x x + y y + a x + b y + c = 0
        Q a() {
            return new Q(parts[1], parts[0]);
        }

        Q b() {
            return new Q(parts[2], parts[0]);
        }

        Q c() {
            return new Q(parts[3], parts[0]);
        }

        Q mx() {
            return a().over(-2);
        }

        Q my() {
            return b().over(-2);
        }

        Q rr() {
            return mx().squared().plus(my().squared()).minus(c());
        }

        boolean is(Thing t) {
            return sort == t.sort && java.util.Arrays.equals(parts, t.parts);
        }

        boolean isSmall() {
            for (BigInteger p : parts) {
                if (p.abs().compareTo(BigInteger.valueOf(1 << 20)) > 0) {
                    return false;
                }
            }
            return true;
        }
    }

    // ---- what is kept

    int keep(Q q) {
        if (q == null) {
            return NOTHING;
        }
        if (!q.isWithin(1 << 30) || numbers.size() >= 200) {
            return NO_ROOM;
        }
        numbers.add(q);
        return numbers.size() - 1;
    }

    int keep(Thing t) {
        if (t == null) {
            return NOTHING;
        }
        if (!t.isSmall() || things.size() >= 100) {
            return NO_ROOM;
        }
        things.add(t);
        return things.size() - 1;
    }

    boolean hasNumber(int a) {
        return a >= 0 && a < numbers.size();
    }

    int sort(int t) {
        return t >= 0 && t < things.size() ? things.get(t).sort : -1;
    }

    static Thing point(Q x, Q y) {
        return new Thing(0, x, y, Q.ONE);
    }

    static Thing farPoint(Q x, Q y) {
        return new Thing(0, x, y, Q.ZERO);
    }

    static Thing line(Q a, Q b, Q c) {
        return new Thing(1, a, b, c);
    }

    static final Thing ALL_FAR = line(Q.ZERO, Q.ZERO, Q.ONE);

    static Thing circle(Q mx, Q my, Q rr) {
        return new Thing(2, Q.ONE, mx.times(-2), my.times(-2), mx.squared().plus(my.squared()).minus(rr));
    }

    // ---- NUMBERS

    int fraction(long up, long down) {
        if (up == Long.MIN_VALUE || down == Long.MIN_VALUE) {
            return NO_ROOM;
        }
        return keep(Q.of(up, down));
    }

    int apply(int op, int a, int b) {
        if (op < 0 || op > 9 || !hasNumber(a) || !hasNumber(b)) {
            return UNKNOWN;
        }
        Q p = numbers.get(a);
        Q q = numbers.get(b);
        switch (op) {
            case 0: return keep(p.plus(q));
            case 1: return keep(p.minus(q));
            case 2: return keep(p.times(q));
            case 3: return keep(q.isZero() ? null : p.over(q));
            case 4: return keep(p.compareTo(q) < 0 ? p : q);
            case 5: return keep(p.compareTo(q) < 0 ? q : p);
            case 6: return keep(new Q(p.floor(), BigInteger.ONE));
            case 7: return keep(p.root());
            case 8: return keep(p.sign() < 0 ? p.negated() : p);
            default: return keep(p.compareTo(q) < 0 ? between(p, q) : between(q, p));
        }
    }

    /** Down the tree of mediants from 0 / 1, 1 / 0. */
    static Q between(Q low, Q high) {
        if (low.sign() <= 0 && high.sign() >= 0) {
            return Q.ZERO;
        }
        if (high.sign() < 0) {
            return between(high.negated(), low.negated()).negated();
        }
        if (low.floor().compareTo(high.floor()) < 0 || low.d.equals(BigInteger.ONE)) {
            BigInteger up = low.negated().floor().negate();
            return new Q(up, BigInteger.ONE);
        }
        // the search between the two whole numbers, by steps that double
        BigInteger whole = low.floor();
        Q shift = new Q(whole, BigInteger.ONE);
        Q l = low.minus(shift);
        Q h = high.minus(shift);
        return between(Q.ONE.over(h), Q.ONE.over(l)).isZero() ? null
                : Q.ONE.over(between(Q.ONE.over(h), Q.ONE.over(l))).plus(shift);
    }

    // ---- STEP

    private static boolean isSorted(char told, int sort) {
        return "plc".indexOf(told) == sort;
    }

    int step(int kind, int a, int b) {
        String first = "nplpppppppl" + "cppllccpp";
        String second = "nplpllllccc" + "cppcccccc";
        if (kind < 0 || kind > 19) {
            return UNKNOWN;
        }
        if (kind == 0) {
            return hasNumber(a) && hasNumber(b) ? keep(point(numbers.get(a), numbers.get(b))) : UNKNOWN;
        }
        if (sort(a) < 0 || sort(b) < 0 || !isSorted(first.charAt(kind), sort(a)) || !isSorted(second.charAt(kind), sort(b))) {
            return UNKNOWN;
        }
        return keep(stepped(kind, things.get(a), things.get(b)));
    }

    private static Thing stepped(int kind, Thing a, Thing b) {
        switch (kind) {
            case 1: return join(a, b);
            case 2: return meet(a, b);
            case 3: return a.isFar() || b.isFar() ? null : midway(a, b);
            case 4: return a.isFar() || b.hasAllFar() ? null : foot(a, b);
            case 5: return b.hasAllFar() ? null : join(a, farPoint(b.part(1), b.part(0).negated()));
            case 6: return b.hasAllFar() ? null : join(a, farPoint(b.part(0), b.part(1)));
            case 7: return a.isFar() || b.hasAllFar() ? null : moved(a, foot(a, b), foot(a, b));
            case 8: return inverse(a, b);
            case 9: return polar(a, b);
            case 10: return pole(a, b);
            case 11: return powerLine(a, b);
            case 12: return a.isFar() || b.isFar() || a.is(b) ? null : circle(a.x(), a.y(), way(a, b));
            case 13: return a.isFar() || b.isFar() || a.is(b) ? null : circle(midway(a, b).x(), midway(a, b).y(), way(a, b).over(4));
            case 14: return pick(crossings(a, b), 0);
            case 15: return pick(crossings(a, b), 1);
            case 16: return powerLine(a, b) == null ? null : pick(crossings(powerLine(a, b), a), 0);
            case 17: return powerLine(a, b) == null ? null : pick(crossings(powerLine(a, b), b), 1);
            default: return pick(tangents(a, b), kind - 18);
        }
    }

    private static Thing pick(Thing[] both, int i) {
        return both == null ? null : both[i];
    }

    /** From slopes, not by a cross product. */
    static Thing join(Thing p, Thing q) {
        if (p.is(q)) {
            return null;
        }
        if (p.isFar() && q.isFar()) {
            return ALL_FAR;
        }
        if (p.isFar()) {
            return join(q, p);
        }
        Q dx = q.isFar() ? q.part(0) : q.x().minus(p.x());
        Q dy = q.isFar() ? q.part(1) : q.y().minus(p.y());
        return line(dy, dx.negated(), dx.times(p.y()).minus(dy.times(p.x())));
    }

    static Thing meet(Thing l, Thing m) {
        if (l.is(m)) {
            return null;
        }
        if (l.hasAllFar()) {
            return meet(m, l);
        }
        Q[] found = Q.solve(new Q[][] {{l.part(0), l.part(1)}, {m.part(0), m.part(1)}},
                new Q[] {l.part(2).negated(), m.part(2).negated()});
        return found == null ? farPoint(l.part(1), l.part(0).negated()) : point(found[0], found[1]);
    }

    static Thing midway(Thing p, Thing q) {
        return point(p.x().plus(q.x()).over(2), p.y().plus(q.y()).over(2));
    }

    static Q way(Thing p, Thing q) {
        return p.x().minus(q.x()).squared().plus(p.y().minus(q.y()).squared());
    }

    static Thing foot(Thing p, Thing l) {
        Q ratio = atLine(p, l).over(l.part(0).squared().plus(l.part(1).squared()));
        return point(p.x().minus(ratio.times(l.part(0))), p.y().minus(ratio.times(l.part(1))));
    }

    static Q atLine(Thing p, Thing l) {
        return l.part(0).times(p.x()).plus(l.part(1).times(p.y())).plus(l.part(2));
    }

    /** r moved as p to q. */
    static Thing moved(Thing p, Thing q, Thing r) {
        return point(r.x().plus(q.x()).minus(p.x()), r.y().plus(q.y()).minus(p.y()));
    }

    static Thing inverse(Thing p, Thing c) {
        if (p.isFar()) {
            return null;
        }
        Q ux = p.x().minus(c.mx());
        Q uy = p.y().minus(c.my());
        Q square = ux.squared().plus(uy.squared());
        if (square.isZero()) {
            return null;
        }
        Q scale = c.rr().over(square);
        return point(c.mx().plus(ux.times(scale)), c.my().plus(uy.times(scale)));
    }

    static Thing polar(Thing p, Thing c) {
        if (p.isFar()) {
            Q x = p.part(0);
            Q y = p.part(1);
            return line(x.times(2), y.times(2), c.a().times(x).plus(c.b().times(y)));
        }
        return line(p.x().plus(c.a().over(2)), p.y().plus(c.b().over(2)),
                c.a().times(p.x()).over(2).plus(c.b().times(p.y()).over(2)).plus(c.c()));
    }

    /** The row whose polar is the line, by elimination. */
    static Thing pole(Thing l, Thing c) {
        Q[] found = Q.solve(new Q[][] {{Q.ONE, Q.ZERO, c.a().over(2)}, {Q.ZERO, Q.ONE, c.b().over(2)},
            {c.a().over(2), c.b().over(2), c.c()}}, new Q[] {l.part(0), l.part(1), l.part(2)});
        return new Thing(0, found);
    }

    static Thing powerLine(Thing c, Thing d) {
        if (c.mx().is(d.mx()) && c.my().is(d.my())) {
            return null;
        }
        return line(c.a().minus(d.a()), c.b().minus(d.b()), c.c().minus(d.c()));
    }

    /** By the quadratic equation in x or y. */
    static Thing[] crossings(Thing l, Thing c) {
        if (l.hasAllFar()) {
            return null;
        }
        boolean upright = l.part(1).isZero();
        if (upright) {
            Q x = l.part(2).over(l.part(0)).negated();
            Q[] ys = roots(Q.ONE, c.b(), x.squared().plus(c.a().times(x)).plus(c.c()));
            return ys == null ? null : new Thing[] {point(x, ys[0]), point(x, ys[1])};
        }
        Q m = l.part(0).over(l.part(1)).negated();
        Q t = l.part(2).over(l.part(1)).negated();
        Q[] xs = roots(Q.ONE.plus(m.squared()), m.times(t).times(2).plus(c.a()).plus(c.b().times(m)),
                t.squared().plus(c.b().times(t)).plus(c.c()));
        return xs == null ? null
                : new Thing[] {point(xs[0], m.times(xs[0]).plus(t)), point(xs[1], m.times(xs[1]).plus(t))};
    }

    /** Both roots, the lesser first; null if there are none, or they are no fractions. */
    static Q[] roots(Q a, Q b, Q c) {
        Q root = b.squared().minus(a.times(c).times(4)).root();
        if (root == null) {
            return null;
        }
        Q p = b.negated().minus(root).over(a.times(2));
        Q q = b.negated().plus(root).over(a.times(2));
        return p.compareTo(q) <= 0 ? new Q[] {p, q} : new Q[] {q, p};
    }

    /** The lines u (x - px) + v (y - py) = 0 as far from the middle as the radius. */
    static Thing[] tangents(Thing p, Thing c) {
        if (p.isFar()) {
            return null;
        }
        Q ux = p.x().minus(c.mx());
        Q uy = p.y().minus(c.my());
        Q a = ux.squared().minus(c.rr());
        Q b = ux.times(uy).times(2);
        Q d = uy.squared().minus(c.rr());
        Thing s;
        Thing t;
        if (a.isZero()) {
            s = through(p, Q.ONE, Q.ZERO);
            t = b.isZero() ? s : through(p, d.negated(), b);
        } else {
            Q[] slopes = roots(a, b, d);
            if (slopes == null) {
                return null;
            }
            s = through(p, slopes[0], Q.ONE);
            t = through(p, slopes[1], Q.ONE);
        }
        for (int i = 0; i < 3; i++) {
            int order = s.parts[i].compareTo(t.parts[i]);
            if (order != 0) {
                return order < 0 ? new Thing[] {s, t} : new Thing[] {t, s};
            }
        }
        return new Thing[] {s, t};
    }

    private static Thing through(Thing p, Q a, Q b) {
        return line(a, b, a.times(p.x()).plus(b.times(p.y())).negated());
    }

    // ---- THREE

    int three(int kind, int a, int b, int c) {
        if (kind < 0 || kind > 8 || sort(a) != 0 || sort(c) != 0) {
            return UNKNOWN;
        }
        boolean known = kind == 8 ? hasNumber(b) : kind == 7 ? sort(b) >= 0 : sort(b) == 0;
        if (!known) {
            return UNKNOWN;
        }
        Thing p = things.get(a);
        Thing r = things.get(c);
        if (p.isFar() || r.isFar() || kind < 7 && things.get(b).isFar()) {
            return NOTHING;
        }
        if (kind == 7) {
            return keep(point(p.x().minus(r.y().minus(p.y())), p.y().plus(r.x().minus(p.x()))));
        }
        if (kind == 8) {
            Q n = numbers.get(b);
            return keep(point(p.x().plus(n.times(r.x().minus(p.x()))), p.y().plus(n.times(r.y().minus(p.y())))));
        }
        return keep(ofThree(kind, p, things.get(b), r));
    }

    private static Thing ofThree(int kind, Thing p, Thing q, Thing r) {
        switch (kind) {
            case 0: return around(p, q, r);
            case 1: return point(p.x().plus(q.x()).plus(r.x()).over(3), p.y().plus(q.y()).plus(r.y()).over(3));
            case 2: return heights(p, q, r);
            case 3: return around(p, q, r) == null ? null : point(around(p, q, r).mx(), around(p, q, r).my());
            case 4: return around(midway(p, q), midway(q, r), midway(p, r));
            case 5: return harmonic(p, q, r);
            default: return moved(p, q, r);
        }
    }

    static Thing around(Thing p, Thing q, Thing r) {
        Thing[] all = {p, q, r};
        Q[][] rows = new Q[3][];
        Q[] right = new Q[3];
        for (int i = 0; i < 3; i++) {
            rows[i] = new Q[] {all[i].x(), all[i].y(), Q.ONE};
            right[i] = all[i].x().squared().plus(all[i].y().squared()).negated();
        }
        Q[] found = Q.solve(rows, right);
        return found == null ? null : new Thing(2, Q.ONE, found[0], found[1], found[2]);
    }

    private static Thing heights(Thing p, Thing q, Thing r) {
        Q ax = q.x().minus(r.x());
        Q ay = q.y().minus(r.y());
        Q bx = r.x().minus(p.x());
        Q by = r.y().minus(p.y());
        Q[] found = Q.solve(new Q[][] {{ax, ay}, {bx, by}},
                new Q[] {ax.times(p.x()).plus(ay.times(p.y())), bx.times(q.x()).plus(by.times(q.y()))});
        return found == null ? null : point(found[0], found[1]);
    }

    static Q area(Thing p, Thing q, Thing r) {
        return q.x().minus(p.x()).times(r.y().minus(p.y())).minus(q.y().minus(p.y()).times(r.x().minus(p.x())));
    }

    private static Thing harmonic(Thing p, Thing q, Thing r) {
        if (p.is(q) || r.is(p) || r.is(q) || !area(p, q, r).isZero()) {
            return null;
        }
        Q dx = q.x().minus(p.x());
        Q dy = q.y().minus(p.y());
        Q t = dx.isZero() ? r.y().minus(p.y()).over(dy) : r.x().minus(p.x()).over(dx);
        Q down = t.times(2).minus(Q.ONE);
        if (down.isZero()) {
            return farPoint(dx, dy);
        }
        Q u = t.over(down);
        return point(p.x().plus(dx.times(u)), p.y().plus(dy.times(u)));
    }

    // ---- measure

    int measure(int kind, int a, int b, int c) {
        String[] told = {"ptt", "ptt", "ppt", "pct", "ctt", "ppp", "plt"};
        if (kind < 0 || kind > 6) {
            return UNKNOWN;
        }
        int[] all = {a, b, c};
        for (int i = 0; i < 3; i++) {
            char t = told[kind].charAt(i);
            if (sort(all[i]) < 0 || t != 't' && !isSorted(t, sort(all[i]))) {
                return UNKNOWN;
            }
        }
        return keep(measured(kind, things.get(a), things.get(b), things.get(c)));
    }

    private static Q measured(int kind, Thing a, Thing b, Thing c) {
        switch (kind) {
            case 0: return a.isFar() ? null : a.x();
            case 1: return a.isFar() ? null : a.y();
            case 2: return a.isFar() || b.isFar() ? null : way(a, b);
            case 3: return a.isFar() ? null : power(a, b);
            case 4: return a.rr();
            case 5: return a.isFar() || b.isFar() || c.isFar() ? null : area(a, b, c);
            default: return a.isFar() || b.hasAllFar() ? null : way(a, foot(a, b));
        }
    }

    private static Q power(Thing p, Thing c) {
        return p.x().minus(c.mx()).squared().plus(p.y().minus(c.my()).squared()).minus(c.rr());
    }

    // ---- holds

    int holds(int kind, int a, int b, int c, int d) {
        String[] told = {"ppp", "lll", "pl", "pc", "ll", "ll", "pppp", "pppp", "lc", "cc", "cc", "ppp", "pc", "llc", "pppp"};
        if (kind < 0 || kind > 14) {
            return UNKNOWN;
        }
        int[] all = {a, b, c, d};
        Thing[] t = new Thing[4];
        boolean anyFar = false;
        for (int i = 0; i < told[kind].length(); i++) {
            if (sort(all[i]) < 0 || !isSorted(told[kind].charAt(i), sort(all[i]))) {
                return UNKNOWN;
            }
            t[i] = things.get(all[i]);
            anyFar = anyFar || t[i].isFar();
        }
        return isSo(kind, t, anyFar) ? 1 : 0;
    }

    private static boolean isOn(Thing p, Thing l) {
        return p.part(0).times(l.part(0)).plus(p.part(1).times(l.part(1))).plus(p.part(2).times(l.part(2))).isZero();
    }

    private static boolean isSo(int kind, Thing[] t, boolean anyFar) {
        switch (kind) {
            case 0: return t[0].is(t[1]) || isOn(t[2], join(t[0], t[1]));
            case 1: return t[0].is(t[1]) || isOn(meet(t[0], t[1]), t[2]);
            case 2: return isOn(t[0], t[1]);
            case 3: return !anyFar && power(t[0], t[1]).isZero();
            case 4: return t[0].is(t[1]) || meet(t[0], t[1]).isFar();
            case 5: return !t[0].hasAllFar() && !t[1].hasAllFar()
                    && t[0].part(0).times(t[1].part(0)).plus(t[0].part(1).times(t[1].part(1))).isZero();
            case 6: return !anyFar && way(t[0], t[1]).is(way(t[2], t[3]));
            case 7: return !anyFar && areApart(t) && around(t[0], t[1], t[2]) != null
                    && power(t[3], around(t[0], t[1], t[2])).isZero();
            case 8: return !t[0].hasAllFar() && way(point(t[1].mx(), t[1].my()), foot(point(t[1].mx(), t[1].my()), t[0])).is(t[1].rr());
            case 9: return doTouch(t[0], t[1]);
            case 10: return middleWay(t[0], t[1]).is(t[0].rr().plus(t[1].rr()));
            case 11: return !anyFar && area(t[0], t[1], t[2]).sign() > 0;
            case 12: return !anyFar && power(t[0], t[1]).sign() < 0;
            case 13: return isOn(pole(t[0], t[2]), t[1]);
            default: return isHarmonic(t);
        }
    }

    private static boolean areApart(Thing[] t) {
        for (int i = 0; i < 4; i++) {
            for (int j = i + 1; j < 4; j++) {
                if (t[i].is(t[j])) {
                    return false;
                }
            }
        }
        return true;
    }

    private static Q middleWay(Thing c, Thing d) {
        return c.mx().minus(d.mx()).squared().plus(c.my().minus(d.my()).squared());
    }

    /** The way of the middles is the sum, or the difference, of the radii, and not 0. */
    private static boolean doTouch(Thing c, Thing d) {
        Q way = middleWay(c, d);
        Q rest = way.minus(c.rr()).minus(d.rr());
        return !way.isZero() && rest.squared().is(c.rr().times(d.rr()).times(4));
    }

    /** With the line's points as u a + v b, by elimination: c and d have opposite u / v. */
    private static boolean isHarmonic(Thing[] t) {
        if (!areApart(t) || !isOn(t[2], join(t[0], t[1])) || !isOn(t[3], join(t[0], t[1]))) {
            return false;
        }
        Q[] c = shares(t[0], t[1], t[2]);
        Q[] d = shares(t[0], t[1], t[3]);
        return c[0].times(d[1]).plus(c[1].times(d[0])).isZero();
    }

    private static Q[] shares(Thing a, Thing b, Thing c) {
        for (int i = 0; i < 3; i++) {
            int j = (i + 1) % 3;
            Q[] found = Q.solve(new Q[][] {{a.part(i), b.part(i)}, {a.part(j), b.part(j)}}, new Q[] {c.part(i), c.part(j)});
            if (found != null) {
                return found;
            }
        }
        throw new IllegalStateException();
    }
}
