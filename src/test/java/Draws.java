import java.math.BigInteger;

/** The document's DRAWS, in whole numbers of any length, and seeds by which something is drawn. */
final class Draws {
    private static final BigInteger FACTOR = BigInteger.valueOf(1103515245), MORE = BigInteger.valueOf(12345);
    private static final BigInteger BY = BigInteger.TWO.pow(31);

    private Draws() {
    }

    static int next(int seed) {
        return FACTOR.multiply(BigInteger.valueOf(seed)).add(MORE).mod(BY).intValueExact();
    }

    /** The seed that this one is the next of. */
    static int before(int next) {
        return BigInteger.valueOf(next).subtract(MORE).multiply(FACTOR.modInverse(BY)).mod(BY).intValueExact();
    }

    /** The least seed by which these sides are drawn. */
    static int firstSeedFor(String sides) {
        for (int seed = 0; ; seed++) {
            int then = seed;
            int fits = 0;
            for (; fits < sides.length(); fits++) {
                then = next(then);
                if ((then / 65536 % 2 == 1) != (sides.charAt(fits) == 't')) {
                    break;
                }
            }
            if (fits == sides.length()) {
                return seed;
            }
        }
    }
}
