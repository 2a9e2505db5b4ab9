import java.math.BigInteger;

/** A fraction in whole numbers of any length. */
record Fraction(BigInteger above, BigInteger below) {
    static Fraction of(long above, long below) {
        return new Fraction(BigInteger.valueOf(above), BigInteger.valueOf(below)).lowest();
    }

    Fraction lowest() {
        BigInteger common = above.gcd(below);
        BigInteger by = below.signum() < 0 ? common.negate() : common;
        return new Fraction(above.divide(by), below.divide(by));
    }

    boolean isZero() {
        return above.signum() == 0;
    }

    Fraction plus(Fraction other) {
        return new Fraction(above.multiply(other.below).add(other.above.multiply(below)), below.multiply(other.below)).lowest();
    }

    Fraction minus(Fraction other) {
        return plus(new Fraction(other.above.negate(), other.below));
    }

    Fraction times(Fraction other) {
        return new Fraction(above.multiply(other.above), below.multiply(other.below)).lowest();
    }

    Fraction by(Fraction other) {
        return times(new Fraction(other.below, other.above));
    }

    /** Brings the square at the beginning of the lines to ones and zeros. */
    static void eliminate(Fraction[][] lines) {
        for (int k = 0; k < lines.length; k++) {
            int from = k;
            while (lines[from][k].isZero()) {
                from++;
            }
            Fraction[] swapped = lines[from];
            lines[from] = lines[k];
            lines[k] = swapped;
            Fraction pivot = lines[k][k];
            for (int j = 0; j < lines[k].length; j++) {
                lines[k][j] = lines[k][j].by(pivot);
            }
            for (int i = 0; i < lines.length; i++) {
                Fraction factor = lines[i][k];
                for (int j = 0; i != k && !factor.isZero() && j < lines[i].length; j++) {
                    lines[i][j] = lines[i][j].minus(factor.times(lines[k][j]));
                }
            }
        }
    }
}
