import java.math.BigInteger;

/** The numbers at which the document's sentences turn. */
final class Edges {
    /** The least size that is not small enough. */
    static final BigInteger TOO_GREAT = BigInteger.TWO.pow(2048);
    /** The greatest that is; it has the divisors 3 and 5, and 2^1024 - 1 times 2^1024 + 1 is this. */
    static final String MOST = TOO_GREAT.subtract(BigInteger.ONE).toString();
    /** The next below, which has no divisor in common with it. */
    static final String LESS = TOO_GREAT.subtract(BigInteger.TWO).toString();
    static final String HALF = two(2047);

    /** The bits of numbers that a carry makes one limb, int or long longer. */
    static final int[] FULL_LIMBS = {30, 31, 32, 62, 63, 64, 2015, 2016, 2046, 2047};

    static final int[] NO_REGISTERS = {-1, 16, Integer.MIN_VALUE, Integer.MAX_VALUE};

    private Edges() {
    }

    static String two(int n) {
        return BigInteger.TWO.pow(n).toString();
    }

    static String power(int base, int n) {
        return BigInteger.valueOf(base).pow(n).toString();
    }

    static String plus(String number, int more) {
        return new BigInteger(number).add(BigInteger.valueOf(more)).toString();
    }
}
