import java.math.BigInteger;
import java.util.ArrayList;
import java.util.List;
import java.util.Map;
import java.util.Random;
import java.util.TreeMap;

/** POLYNOMIALS by fixed seeds, against maps from exponents to coefficients without bounds. */
final class PolynomialsTest {
    private static final BigInteger SMALL = BigInteger.valueOf(1 << 26);
    private static int refused = 0;
    private static int valued = 0;
    private static int put = 0;

    private final Random random;
    private final PlainGeometry x = new PlainGeometry();
    private final List<TreeMap<Integer, BigInteger>> kept = new ArrayList<>();
    private final List<Q> numbers = new ArrayList<>();

    private PolynomialsTest(int seed) {
        random = new Random(seed);
    }

    public static void main(String[] args) {
        for (int seed = 0; seed < 400; seed++) {
            new PolynomialsTest(seed).run();
        }
        Due.is("refused, valued, put in: " + refused + ", " + valued + ", " + put, refused > 500 && valued > 500 && put > 500);
        Due.end();
    }

    private void run() {
        for (int i = 0; i < 10; i++) {
            Q q = Q.of(random.nextInt(9) - 4, random.nextInt(3) + 1);
            q = random.nextInt(6) == 0 ? Q.of(random.nextInt(1 << 17)) : q;
            numbers.add(q);
            Due.is("number", x.fraction(q.n.longValue(), q.d.longValue()), i);
        }
        for (int calls = 0; calls < 110; calls++) {
            int choice = random.nextInt(10);
            if (choice < 2 || kept.size() < 4) {
                single();
            } else if (choice < 7) {
                combined();
            } else if (choice < 9) {
                valued();
            } else {
                same();
            }
        }
        Due.is("polynomials", x.count(3), kept.size());
        Due.is("numbers", x.count(0), numbers.size());
        for (int a = 0; a < kept.size(); a++) {
            compare(a);
        }
    }

    // exponents i, j, k as 10000 i + 100 j + k: in the order of the document
    private static int degree(int key) {
        return key / 10000 + key / 100 % 100 + key % 100;
    }

    private static boolean isSmall(Map<Integer, BigInteger> p) {
        for (Map.Entry<Integer, BigInteger> e : p.entrySet()) {
            if (e.getValue().signum() != 0 && (degree(e.getKey()) > 10 || e.getValue().abs().compareTo(SMALL) > 0)) {
                return false;
            }
        }
        return true;
    }

    private void keep(String call, int got, TreeMap<Integer, BigInteger> p) {
        boolean fits = p != null && isSmall(p) && kept.size() < 60;
        refused += fits ? 0 : 1;
        Due.is(call, got, fits ? kept.size() : -4);
        if (fits) {
            p.values().removeIf(v -> v.signum() == 0);
            kept.add(p);
            compare(kept.size() - 1);
        }
    }

    private void compare(int a) {
        for (int i = 0; i < 12; i++) {
            for (int j = 0; j < 12; j++) {
                for (int k = 0; k < 12; k++) {
                    BigInteger due = kept.get(a).getOrDefault(10000 * i + 100 * j + k, BigInteger.ZERO);
                    Due.is("coefficient of " + a + " at " + i + " " + j + " " + k, x.coefficient(a, i, j, k), due.longValueExact());
                }
            }
        }
    }

    private void single() {
        int unknown = random.nextInt(4) - 1;
        long v = random.nextInt(7) - 3;
        v = random.nextInt(6) == 0 ? random.nextInt(1 << 27) - (1 << 26) : v;
        TreeMap<Integer, BigInteger> made = new TreeMap<>();
        made.put(unknown < 0 ? 0 : unknown == 0 ? 10000 : unknown == 1 ? 100 : 1, BigInteger.valueOf(v));
        keep("term(" + v + ", " + unknown + ")", x.term(v, unknown), made);
    }

    private static TreeMap<Integer, BigInteger> sum(Map<Integer, BigInteger> a, Map<Integer, BigInteger> b, int sign) {
        TreeMap<Integer, BigInteger> made = new TreeMap<>(a);
        b.forEach((key, v) -> made.merge(key, v.multiply(BigInteger.valueOf(sign)), BigInteger::add));
        made.values().removeIf(v -> v.signum() == 0);
        return made;
    }

    private static TreeMap<Integer, BigInteger> product(Map<Integer, BigInteger> a, Map<Integer, BigInteger> b) {
        TreeMap<Integer, BigInteger> made = new TreeMap<>();
        a.forEach((k, v) -> b.forEach((m, w) -> made.merge(k + m, v.multiply(w), BigInteger::add)));
        made.values().removeIf(v -> v.signum() == 0);
        return made;
    }

    private static TreeMap<Integer, BigInteger> putIn(Map<Integer, BigInteger> a, Map<Integer, BigInteger> b) {
        TreeMap<Integer, BigInteger> made = new TreeMap<>();
        TreeMap<Integer, BigInteger> power = new TreeMap<>(Map.of(0, BigInteger.ONE));
        int greatest = 0;
        for (int key : a.keySet()) {
            greatest = Math.max(greatest, key / 10000);
        }
        for (int e = 0; e <= greatest; e++) {
            TreeMap<Integer, BigInteger> part = new TreeMap<>();
            for (Map.Entry<Integer, BigInteger> entry : a.entrySet()) {
                if (entry.getKey() / 10000 == e) {
                    part.put(entry.getKey() % 10000, entry.getValue());
                }
            }
            TreeMap<Integer, BigInteger> more = product(part, power);
            made = sum(made, more, 1);
            power = e < greatest ? product(power, b) : power;
            if (!isSmall(more) || !isSmall(made) || !isSmall(power)) {
                return null;
            }
        }
        return made;
    }

    private static TreeMap<Integer, BigInteger> derived(Map<Integer, BigInteger> a) {
        TreeMap<Integer, BigInteger> made = new TreeMap<>();
        a.forEach((k, v) -> made.put(k - 10000, v.multiply(BigInteger.valueOf(k / 10000))));
        made.keySet().removeIf(k -> k < 0);
        return made;
    }

    private void combined() {
        int op = random.nextInt(5);
        int a = random.nextInt(kept.size());
        int b = random.nextInt(kept.size());
        Map<Integer, BigInteger> p = kept.get(a);
        Map<Integer, BigInteger> q = kept.get(b);
        TreeMap<Integer, BigInteger> due = op == 0 ? sum(p, q, 1) : op == 1 ? sum(p, q, -1)
                : op == 2 ? product(p, q) : op == 3 ? putIn(p, q) : derived(p);
        put += op == 3 && due != null ? 1 : 0;
        keep("combine(" + op + ", " + p + ", " + q + ")", x.combine(op, a, b), due);
    }

    private void valued() {
        int a = random.nextInt(kept.size());
        int[] at = {random.nextInt(numbers.size()), random.nextInt(numbers.size()), random.nextInt(numbers.size())};
        Q sum = Q.ZERO;
        for (Map.Entry<Integer, BigInteger> e : kept.get(a).entrySet()) {
            Q v = new Q(e.getValue(), BigInteger.ONE);
            int[] often = {e.getKey() / 10000, e.getKey() / 100 % 100, e.getKey() % 100};
            for (int u = 0; u < 3; u++) {
                for (int i = 0; i < often[u] && v != null; i++) {
                    v = v.times(numbers.get(at[u]));
                    v = v.isWithin(1 << 30) ? v : null;
                }
            }
            sum = v == null || sum == null ? null : sum.plus(v);
            sum = sum == null || sum.isWithin(1 << 30) ? sum : null;
        }
        boolean fits = sum != null && numbers.size() < 200;
        int got = x.value(a, at[0], at[1], at[2]);
        Due.is("value of " + kept.get(a), got, fits ? numbers.size() : -4);
        if (fits) {
            valued++;
            numbers.add(sum);
            Due.is("n of value", x.numberOf(got, 0), sum.n.longValueExact());
            Due.is("d of value", x.numberOf(got, 1), sum.d.longValueExact());
        }
    }

    private void same() {
        int a = random.nextInt(kept.size());
        for (int b = 0; b < kept.size(); b++) {
            Due.is("same " + a + " " + b, x.same(a, b), kept.get(a).equals(kept.get(b)) ? 1 : 0);
        }
    }
}
