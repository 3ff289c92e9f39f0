import java.math.BigInteger;

/** A fraction in lowest terms, with a divisor above 0. */
record Frac(BigInteger n, BigInteger d) {
    static final Frac ZERO = of(0);

    static Frac of(long value) {
        return new Frac(BigInteger.valueOf(value), BigInteger.ONE);
    }

    static Frac of(long n, long d) {
        return lowest(BigInteger.valueOf(n), BigInteger.valueOf(d));
    }

    private static Frac lowest(BigInteger n, BigInteger d) {
        BigInteger divisor = n.gcd(d);
        if (d.signum() < 0) {
            divisor = divisor.negate();
        }
        return new Frac(n.divide(divisor), d.divide(divisor));
    }

    Frac plus(Frac other) {
        return lowest(n.multiply(other.d).add(other.n.multiply(d)), d.multiply(other.d));
    }

    Frac minus(Frac other) {
        return plus(other.times(of(-1)));
    }

    Frac times(Frac other) {
        return lowest(n.multiply(other.n), d.multiply(other.d));
    }

    /** The value between this one and another: this for t = 0, the other for t = 1. */
    Frac towards(Frac other, Frac t) {
        return plus(other.minus(this).times(t));
    }

    boolean isWhole() {
        return d.equals(BigInteger.ONE);
    }

    boolean isZero() {
        return n.signum() == 0;
    }

    boolean isAbove(long amount) {
        return n.abs().compareTo(d.multiply(BigInteger.valueOf(amount))) > 0;
    }

    long whole() {
        return n.longValueExact();
    }
}
