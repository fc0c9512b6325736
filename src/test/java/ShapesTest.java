import java.util.ArrayList;
import java.util.Arrays;
import java.util.Comparator;
import java.util.List;
import java.util.Random;

/** POLYGONS by fixed seeds, against looking at every place, side and set of diagonals. */
final class ShapesTest {
    private static final Random RANDOM = new Random(7);
    private static int simple = 0;

    private final int[][] at;
    private final int n;

    private ShapesTest(int[][] at) {
        this.at = at;
        n = at.length;
    }

    public static void main(String[] args) {
        PlainGeometry x = new PlainGeometry();
        for (int run = 0; run < 6000; run++) {
            x = run % 12 == 0 ? new PlainGeometry() : x;
            new ShapesTest(shape(run)).check(x);
        }
        Due.is("simple ones: " + simple, simple > 2000);
        Due.end();
    }

    private static int[][] shape(int run) {
        int corners = run % 3 == 0 ? 3 + RANDOM.nextInt(4) : 3 + RANDOM.nextInt(6);
        int wide = run % 5 == 0 ? 8 : 5;
        int[][] made = new int[corners][];
        for (int i = 0; i < corners; i++) {
            made[i] = new int[] {RANDOM.nextInt(wide) - 2, RANDOM.nextInt(wide) - 2};
        }
        if (run % 3 != 0) {
            Arrays.sort(made, Comparator.comparingDouble(p -> Math.atan2(p[1] - 0.37, p[0] - 0.41)));
        }
        return made;
    }

    private int x(int i) {
        return at[i % n][0];
    }

    private int y(int i) {
        return at[i % n][1];
    }

    private void check(PlainGeometry house) {
        int p = house.polygon();
        for (int i = 0; i < n; i++) {
            Due.is("corner", house.corner(p, x(i), y(i)), i + 1);
        }
        String told = Arrays.deepToString(at);
        boolean isSimple = isSimple();
        simple += isSimple ? 1 : 0;
        List<int[]> hull = hull();
        long[] due = {n, isSimple ? 1 : 0, area(), hull.size(), isSimple && isConvex(hull) ? 1 : 0,
            isSimple ? places(2) : -3, isSimple ? places(1) : -3, isSimple ? triangulations() : -3, greatest()};
        for (int what = 0; what < due.length; what++) {
            Due.is(told + " what " + what, house.polygonOf(p, what), due[what]);
        }
        for (int i = 0; i < hull.size(); i++) {
            Due.is(told + " around x", house.around(p, i, 0), hull.get(i)[0]);
            Due.is(told + " around y", house.around(p, i, 1), hull.get(i)[1]);
        }
        Due.is(told + " around end", house.around(p, hull.size(), 0), -2);
        checkPlaces(house, p, isSimple);
    }

    private void checkPlaces(PlainGeometry house, int p, boolean isSimple) {
        for (int i = 0; i < 3 && house.count(0) < 198 && house.count(1) < 100; i++) {
            int down = 1 + RANDOM.nextInt(4);
            Q px = Q.of(RANDOM.nextInt(7 * down) - 2 * down, down);
            Q py = Q.of(RANDOM.nextInt(7 * down) - 2 * down, down);
            int t = house.step(0, house.fraction(px.n.longValue(), px.d.longValue()), house.fraction(py.n.longValue(), py.d.longValue()));
            Due.is(Arrays.deepToString(at) + " place " + px + ", " + py, house.place(p, t), isSimple ? where(px, py) : -3);
        }
    }

    private static Q cross(Q ax, Q ay, Q bx, Q by) {
        return ax.times(by).minus(ay.times(bx));
    }

    /** How many places two sides have in common: 0, 1, or 2 for more. */
    private int common(int i, int j) {
        Q dx = Q.of(x(i + 1) - x(i));
        Q dy = Q.of(y(i + 1) - y(i));
        Q ex = Q.of(x(j + 1) - x(j));
        Q ey = Q.of(y(j + 1) - y(j));
        Q wx = Q.of(x(j) - x(i));
        Q wy = Q.of(y(j) - y(i));
        Q down = cross(dx, dy, ex, ey);
        if (!down.isZero()) {
            return isPart(cross(wx, wy, ex, ey).over(down)) && isPart(cross(wx, wy, dx, dy).over(down)) ? 1 : 0;
        }
        if (!cross(dx, dy, wx, wy).isZero()) {
            return 0;
        }
        Q square = dx.squared().plus(dy.squared());
        Q s = wx.times(dx).plus(wy.times(dy)).over(square);
        Q t = wx.plus(ex).times(dx).plus(wy.plus(ey).times(dy)).over(square);
        Q low = max(Q.ZERO, s.compareTo(t) < 0 ? s : t);
        Q high = min(Q.ONE, s.compareTo(t) < 0 ? t : s);
        return low.compareTo(high) > 0 ? 0 : low.is(high) ? 1 : 2;
    }

    private static boolean isPart(Q t) {
        return t.sign() >= 0 && t.compareTo(Q.ONE) <= 0;
    }

    private static Q max(Q a, Q b) {
        return a.compareTo(b) > 0 ? a : b;
    }

    private static Q min(Q a, Q b) {
        return a.compareTo(b) < 0 ? a : b;
    }

    private boolean isSimple() {
        for (int i = 0; i < n; i++) {
            for (int j = i + 1; j < n; j++) {
                if (x(i) == x(j) && y(i) == y(j)) {
                    return false;
                }
            }
        }
        for (int i = 0; i < n; i++) {
            for (int j = i + 1; j < n; j++) {
                boolean areNeighbours = j == i + 1 || i == 0 && j == n - 1;
                if (common(i, j) != (areNeighbours ? 1 : 0)) {
                    return false;
                }
            }
        }
        return true;
    }

    private long area() {
        long sum = 0;
        for (int i = 1; i + 1 < n; i++) {
            sum += (x(i) - x(0)) * (y(i + 1) - y(0)) - (y(i) - y(0)) * (x(i + 1) - x(0));
        }
        return sum;
    }

    /** By how often the sides wind around the place. */
    private int where(Q px, Q py) {
        int winds = 0;
        for (int i = 0; i < n; i++) {
            Q ax = Q.of(x(i)).minus(px);
            Q ay = Q.of(y(i)).minus(py);
            Q bx = Q.of(x(i + 1)).minus(px);
            Q by = Q.of(y(i + 1)).minus(py);
            int left = cross(ax, ay, bx, by).sign();
            if (left == 0 && ax.times(bx).plus(ay.times(by)).sign() <= 0) {
                return 1;
            }
            if (ay.sign() <= 0 && by.sign() > 0 && left > 0) {
                winds++;
            }
            if (ay.sign() > 0 && by.sign() <= 0 && left < 0) {
                winds--;
            }
        }
        return winds == 0 ? 0 : 2;
    }

    private long places(int wanted) {
        long found = 0;
        for (int px = -3; px < 8; px++) {
            for (int py = -3; py < 8; py++) {
                found += where(Q.of(px), Q.of(py)) == wanted ? 1 : 0;
            }
        }
        return found;
    }

    private static long turn(int[] a, int[] b, int[] c) {
        return (long) (b[0] - a[0]) * (c[1] - a[1]) - (long) (b[1] - a[1]) * (c[0] - a[0]);
    }

    /** The lower chain, then the upper one. */
    private List<int[]> hull() {
        int[][] sorted = at.clone();
        Arrays.sort(sorted, (a, b) -> a[0] != b[0] ? a[0] - b[0] : a[1] - b[1]);
        List<int[]> made = new ArrayList<>();
        for (int pass = 0; pass < 2; pass++) {
            List<int[]> chain = new ArrayList<>();
            for (int i = 0; i < n; i++) {
                int[] c = sorted[pass == 0 ? i : n - 1 - i];
                while (chain.size() > 1 && turn(chain.get(chain.size() - 2), chain.get(chain.size() - 1), c) <= 0
                        || chain.size() == 1 && Arrays.equals(chain.get(0), c)) {
                    chain.remove(chain.size() - 1);
                }
                chain.add(c);
            }
            int end = chain.size() == 1 ? 1 - pass : chain.size() - 1;
            for (int i = 0; i < end; i++) {
                made.add(chain.get(i));
            }
        }
        return made;
    }

    /** Whether all corners are on the least convex one around them. */
    private boolean isConvex(List<int[]> hull) {
        for (int[] c : at) {
            boolean isOn = false;
            for (int i = 0; i < hull.size(); i++) {
                isOn = isOn || turn(hull.get(i), hull.get((i + 1) % hull.size()), c) == 0;
            }
            if (!isOn) {
                return false;
            }
        }
        return true;
    }

    private long greatest() {
        long greatest = 0;
        for (int[] a : at) {
            for (int[] b : at) {
                greatest = Math.max(greatest, (a[0] - b[0]) * (a[0] - b[0]) + (a[1] - b[1]) * (a[1] - b[1]));
            }
        }
        return greatest;
    }

    /** All places of the diagonal between its crossings with sides, and these, are IN. */
    private boolean isDiagonal(int i, int j) {
        List<Q> cuts = new ArrayList<>(List.of(Q.ZERO, Q.ONE));
        for (int k = 0; k < n; k++) {
            long u = turn(at[k], at[(k + 1) % n], at[i]);
            long v = turn(at[k], at[(k + 1) % n], at[j]);
            if (u != v && u * v <= 0) {
                cuts.add(Q.of(u, u - v));
            }
            if (k != i && k != j && turn(at[i], at[j], at[k]) == 0 && isBetween(i, j, k)) {
                return false;
            }
        }
        cuts.sort(null);
        for (int k = 0; k + 1 < cuts.size(); k++) {
            Q t = cuts.get(k).plus(cuts.get(k + 1)).over(2);
            boolean isInner = cuts.get(k).sign() > 0 && cuts.get(k).compareTo(Q.ONE) < 0;
            if (whereOn(i, j, t) == 0 || !cuts.get(k).is(cuts.get(k + 1)) && whereOn(i, j, t) != 2
                    || isInner && whereOn(i, j, cuts.get(k)) != 2) {
                return false;
            }
        }
        return true;
    }

    private boolean isBetween(int i, int j, int k) {
        return (x(k) - x(i)) * (x(k) - x(j)) + (y(k) - y(i)) * (y(k) - y(j)) < 0;
    }

    private int whereOn(int i, int j, Q t) {
        return where(Q.of(x(i)).plus(t.times(x(j) - x(i))), Q.of(y(i)).plus(t.times(y(j) - y(i))));
    }

    private long triangulations() {
        List<int[]> diagonals = new ArrayList<>();
        for (int i = 0; i < n; i++) {
            for (int j = i + 2; j < n; j++) {
                if ((i > 0 || j < n - 1) && isDiagonal(i, j)) {
                    diagonals.add(new int[] {i, j});
                }
            }
        }
        return sets(diagonals, 0, new ArrayList<>());
    }

    private long sets(List<int[]> diagonals, int from, List<int[]> taken) {
        if (taken.size() == n - 3) {
            return 1;
        }
        long found = 0;
        for (int i = from; i < diagonals.size(); i++) {
            int[] d = diagonals.get(i);
            boolean fits = true;
            for (int[] e : taken) {
                fits = fits && !(turn(at[d[0]], at[d[1]], at[e[0]]) * turn(at[d[0]], at[d[1]], at[e[1]]) < 0
                        && turn(at[e[0]], at[e[1]], at[d[0]]) * turn(at[e[0]], at[e[1]], at[d[1]]) < 0);
            }
            if (fits) {
                taken.add(d);
                found += sets(diagonals, i + 1, taken);
                taken.remove(taken.size() - 1);
            }
        }
        return found;
    }
}
