import java.math.BigInteger;

/** A fraction without bounds, for the tests. */
final class Q implements Comparable<Q> {
    static final Q ZERO = of(0);
    static final Q ONE = of(1);

    final BigInteger n;
    final BigInteger d;

    Q(BigInteger n, BigInteger d) {
        BigInteger g = n.gcd(d);
        BigInteger s = d.signum() < 0 ? g.negate() : g;
        this.n = n.divide(s);
        this.d = d.divide(s);
    }

    static Q of(long n) {
        return of(n, 1);
    }

    static Q of(long n, long d) {
        return new Q(BigInteger.valueOf(n), BigInteger.valueOf(d));
    }

    Q plus(Q q) {
        return new Q(n.multiply(q.d).add(q.n.multiply(d)), d.multiply(q.d));
    }

    Q minus(Q q) {
        return plus(q.negated());
    }

    Q times(Q q) {
        return new Q(n.multiply(q.n), d.multiply(q.d));
    }

    Q times(long v) {
        return times(of(v));
    }

    Q over(Q q) {
        return new Q(n.multiply(q.d), d.multiply(q.n));
    }

    Q over(long v) {
        return over(of(v));
    }

    Q negated() {
        return new Q(n.negate(), d);
    }

    Q squared() {
        return times(this);
    }

    int sign() {
        return n.signum();
    }

    boolean isZero() {
        return sign() == 0;
    }

    /** The root, null if it is no fraction. */
    Q root() {
        if (sign() < 0) {
            return null;
        }
        BigInteger rn = n.sqrt();
        BigInteger rd = d.sqrt();
        return rn.multiply(rn).equals(n) && rd.multiply(rd).equals(d) ? new Q(rn, rd) : null;
    }

    BigInteger floor() {
        BigInteger[] both = n.divideAndRemainder(d);
        return both[1].signum() < 0 ? both[0].subtract(BigInteger.ONE) : both[0];
    }

    boolean isWithin(long most) {
        BigInteger m = BigInteger.valueOf(most);
        return n.abs().compareTo(m) <= 0 && d.compareTo(m) <= 0;
    }

    boolean is(Q q) {
        return compareTo(q) == 0;
    }

    @Override
    public int compareTo(Q q) {
        return minus(q).sign();
    }

    @Override
    public String toString() {
        return n + "/" + d;
    }

    /** Solves a square system by elimination; null if it has not one solution alone. */
    static Q[] solve(Q[][] rows, Q[] right) {
        int size = right.length;
        Q[][] m = new Q[size][size + 1];
        for (int i = 0; i < size; i++) {
            for (int j = 0; j < size; j++) {
                m[i][j] = rows[i][j];
            }
            m[i][size] = right[i];
        }
        for (int c = 0; c < size; c++) {
            int pivot = c;
            while (pivot < size && m[pivot][c].isZero()) {
                pivot++;
            }
            if (pivot == size) {
                return null;
            }
            Q[] swapped = m[c];
            m[c] = m[pivot];
            m[pivot] = swapped;
            for (int i = 0; i < size; i++) {
                if (i != c) {
                    Q factor = m[i][c].over(m[c][c]);
                    for (int j = c; j <= size; j++) {
                        m[i][j] = m[i][j].minus(factor.times(m[c][j]));
                    }
                }
            }
        }
        Q[] found = new Q[size];
        for (int i = 0; i < size; i++) {
            found[i] = m[i][size].over(m[i][i]);
        }
        return found;
    }
}
