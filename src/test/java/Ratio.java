/** A fraction in lowest terms, below above 0. What would not fit into longs throws: no test goes on with it. */
record Ratio(long above, long below) implements Comparable<Ratio> {
    static final Ratio ZERO = of(0), ONE = of(1);

    static Ratio of(long v) {
        return new Ratio(v, 1);
    }

    static Ratio of(long above, long below) {
        long divisor = below < 0 ? -commonDivisor(above, below) : commonDivisor(above, below);
        return new Ratio(above / divisor, below / divisor);
    }

    private static long commonDivisor(long a, long b) {
        return b == 0 ? Math.abs(a) : commonDivisor(b, a % b);
    }

    private static long product(long a, long b) {
        return Math.multiplyExact(a, b);
    }

    Ratio plus(Ratio o) {
        return of(Math.addExact(product(above, o.below), product(o.above, below)), product(below, o.below));
    }

    Ratio minus(Ratio o) {
        return plus(new Ratio(-o.above, o.below));
    }

    Ratio times(Ratio o) {
        return of(product(above, o.above), product(below, o.below));
    }

    Ratio by(Ratio o) {
        return of(product(above, o.below), product(below, o.above));
    }

    boolean isZero() {
        return above == 0;
    }

    long part(int part) {
        return part == 0 ? above : below;
    }

    /** The least number that all can be told over. */
    static long commonBelow(Ratio... ratios) {
        long least = 1;
        for (Ratio ratio : ratios) {
            least = product(least, ratio.below / commonDivisor(least, ratio.below));
        }
        return least;
    }

    @Override
    public int compareTo(Ratio o) {
        return Long.compare(product(above, o.below), product(o.above, below));
    }

    @Override
    public String toString() {
        return above + "/" + below;
    }
}
