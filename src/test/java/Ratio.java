import java.math.BigInteger;

/** A fraction in lowest terms: the tests' own, so that they share nothing with the class. */
record Ratio(BigInteger above, BigInteger below) implements Comparable<Ratio> {
    static final Ratio ZERO = of(0);

    static Ratio of(long whole) {
        return new Ratio(BigInteger.valueOf(whole), BigInteger.ONE);
    }

    private static Ratio lowest(BigInteger above, BigInteger below) {
        BigInteger common = above.gcd(below);
        return new Ratio(above.divide(common), below.divide(common));
    }

    Ratio plus(Ratio other) {
        return lowest(above.multiply(other.below).add(other.above.multiply(below)),
            below.multiply(other.below));
    }

    Ratio minus(Ratio other) {
        return plus(new Ratio(other.above.negate(), other.below));
    }

    Ratio times(long over, long under) {
        return lowest(above.multiply(BigInteger.valueOf(over)),
            below.multiply(BigInteger.valueOf(under)));
    }

    @Override
    public int compareTo(Ratio other) {
        return above.multiply(other.below).compareTo(other.above.multiply(below));
    }

    boolean isZero() {
        return above.signum() == 0;
    }

    long part(int part) {
        return (part == 0 ? above : below).longValueExact();
    }
}
