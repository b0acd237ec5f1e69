import java.math.BigInteger;
import java.util.List;

/** The numbers at which the document's sentences turn. */
final class Edges {
    /** The least size that is not small enough. */
    static final BigInteger TOO_GREAT = BigInteger.TWO.pow(2048);
    /** The greatest that is; it has the divisors 3 and 5, and 2^1024 - 1 times 2^1024 + 1 is this. */
    static final String MOST = TOO_GREAT.subtract(BigInteger.ONE).toString();
    /** The next below, which has no divisor in common with it. */
    static final String LESS = TOO_GREAT.subtract(BigInteger.TWO).toString();
    static final String HALF = two(2047);

    /** The bits of numbers that a carry makes one limb, int or long longer. */
    static final int[] FULL_LIMBS = {30, 31, 32, 62, 63, 64, 2015, 2016, 2046, 2047};

    static final int[] NO_REGISTERS = {-1, 16, Integer.MIN_VALUE, Integer.MAX_VALUE};

    /** Ways in which register 0 becomes 0 and could get a sign, if register 1 has 0 and register 2 is below 0. */
    private static final List<Start.Call> WAYS_TO_ZERO = List.of(
        desk -> desk.set(0, 0, -1),
        desk -> desk.combine(0, 1, 2, 2),
        desk -> desk.combine(0, 2, 1, 2),
        desk -> desk.combine(0, 3, 1, 2),
        desk -> desk.combine(0, 6, 1, 2),
        desk -> desk.combine(0, 7, 2, 2),
        desk -> desk.change(0, 0, 1),
        desk -> desk.change(0, 4, 2),
        desk -> readZero(desk));

    private Edges() {
    }

    private static String readZero(Desk desk) {
        desk.typeAll("-0");
        return desk.read(0);
    }

    /** What the question answers, asked of register 0 after each of these ways, is due. */
    static void expectOfZeros(String want, Start.Call question) {
        for (Start.Call way : WAYS_TO_ZERO) {
            Desk desk = new Desk();
            desk.set(2, -1, 2);
            way.on(desk);
            String name = desk.latest();
            String got = question.on(desk);
            Checks.same(desk.latest() + " after " + name, got, want);
        }
    }

    static String two(int n) {
        return BigInteger.TWO.pow(n).toString();
    }

    static String power(int base, int n) {
        return BigInteger.valueOf(base).pow(n).toString();
    }

    static String plus(String number, int more) {
        return new BigInteger(number).add(BigInteger.valueOf(more)).toString();
    }
}
