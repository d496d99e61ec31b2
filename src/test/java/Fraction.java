import java.math.BigInteger;

/** A fraction of any size in lowest terms, its below above 0. */
record Fraction(BigInteger above, BigInteger below) {
    static Fraction of(long n) {
        return new Fraction(BigInteger.valueOf(n), BigInteger.ONE);
    }

    static Fraction of(long above, long below) {
        return lowest(BigInteger.valueOf(above), BigInteger.valueOf(below));
    }

    private static Fraction lowest(BigInteger above, BigInteger below) {
        BigInteger g = above.gcd(below);
        Fraction f = new Fraction(above.divide(g), below.divide(g));
        return f.below.signum() > 0 ? f : new Fraction(f.above.negate(), f.below.negate());
    }

    Fraction plus(Fraction o) {
        return lowest(above.multiply(o.below).add(o.above.multiply(below)), below.multiply(o.below));
    }

    Fraction minus(Fraction o) {
        return lowest(above.multiply(o.below).subtract(o.above.multiply(below)), below.multiply(o.below));
    }

    Fraction times(Fraction o) {
        return lowest(above.multiply(o.above), below.multiply(o.below));
    }

    Fraction through(Fraction o) {
        return lowest(above.multiply(o.below), below.multiply(o.above));
    }

    long part(int part) {
        return (part == 0 ? above : below).longValueExact();
    }
}
