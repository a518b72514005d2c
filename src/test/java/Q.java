import java.math.BigInteger;

/** An exact fraction of any size. */
final class Q implements Comparable<Q> {
    static final Q ZERO = of(0);
    static final Q ONE = of(1);
    final BigInteger up;
    final BigInteger low;

    private Q(BigInteger up, BigInteger low) {
        BigInteger shared = up.gcd(low);
        if (low.signum() < 0) {
            shared = shared.negate();
        }
        this.up = up.divide(shared);
        this.low = low.divide(shared);
    }

    static Q of(long up) {
        return new Q(BigInteger.valueOf(up), BigInteger.ONE);
    }

    static Q of(long up, long low) {
        return new Q(BigInteger.valueOf(up), BigInteger.valueOf(low));
    }

    Q plus(Q o) {
        return new Q(up.multiply(o.low).add(o.up.multiply(low)), low.multiply(o.low));
    }

    Q minus(Q o) {
        return plus(o.negate());
    }

    Q negate() {
        return new Q(up.negate(), low);
    }

    Q times(Q o) {
        return new Q(up.multiply(o.up), low.multiply(o.low));
    }

    Q over(Q o) {
        return new Q(up.multiply(o.low), low.multiply(o.up));
    }

    Q abs() {
        return new Q(up.abs(), low);
    }

    int sign() {
        return up.signum();
    }

    long floor() {
        BigInteger[] parts = up.divideAndRemainder(low);
        return parts[1].signum() < 0 ? parts[0].longValueExact() - 1 : parts[0].longValueExact();
    }

    @Override
    public int compareTo(Q o) {
        return up.multiply(o.low).compareTo(o.up.multiply(low));
    }

    @Override
    public boolean equals(Object o) {
        return o instanceof Q q && up.equals(q.up) && low.equals(q.low);
    }

    @Override
    public int hashCode() {
        return up.hashCode() * 31 + low.hashCode();
    }

    @Override
    public String toString() {
        return low.equals(BigInteger.ONE) ? up.toString() : up + "/" + low;
    }
}
