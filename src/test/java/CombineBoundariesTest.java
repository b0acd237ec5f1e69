import java.math.BigInteger;

/** The boundary cases that the document names for combine: promise 3. */
public final class CombineBoundariesTest {
    private static final int SUM = 0;
    private static final int DIFFERENCE = 1;
    private static final int PRODUCT = 2;
    private static final int QUOTIENT = 3;
    private static final int LESSER = 4;
    private static final int GREATER = 5;
    private static final int WHOLE_QUOTIENT = 6;
    private static final int REST = 7;
    private static final int COMMON_DIVISOR = 8;

    private static final String MOST = Edges.MOST;
    private static final String LESS = Edges.LESS;
    private static final String HALF = Edges.HALF;
    /** The product of the first two is MOST; that of the last two, which have no common divisor, is above it. */
    private static final String BELOW_ROOT = Edges.plus(Edges.two(1024), -1);
    private static final String ABOVE_ROOT = Edges.plus(Edges.two(1024), 1);
    private static final String ROOT = Edges.two(1024);
    /** Its quotient by 2/7 is 2^2048 less a half. */
    private static final String TWO_SEVENTHS_OF_MOST =
        Edges.TOO_GREAT.shiftLeft(1).subtract(BigInteger.ONE).divide(BigInteger.valueOf(7)).toString();

    private CombineBoundariesTest() {
    }

    public static void main(String[] args) {
        sum();
        difference();
        product();
        quotient();
        lesserAndGreater();
        wholeQuotient();
        rest();
        commonDivisor();
        big();
        zero();
        noRegister();
        noKind();
        notWhole();
        Checks.end("CombineBoundariesTest");
    }

    /** Into a third register, into the first itself and into the second itself. */
    private static void makes(int kind, String a, String b, String want) {
        Start start = Start.of(a, b);
        start.makes(2, want, desk -> desk.combine(2, kind, 0, 1));
        start.makes(0, want, desk -> desk.combine(0, kind, 0, 1));
        start.makes(1, want, desk -> desk.combine(1, kind, 0, 1));
    }

    private static void makesOfItself(int kind, String a, String want) {
        Start.of(a).makes(0, want, desk -> desk.combine(0, kind, 0, 0));
        Start.of(a).makes(2, want, desk -> desk.combine(2, kind, 0, 0));
    }

    private static void big(int kind, String a, String b) {
        Start start = Start.of(a, b);
        start.leavesAll(Desk.BIG, desk -> desk.combine(2, kind, 0, 1));
        start.leavesAll(Desk.BIG, desk -> desk.combine(0, kind, 0, 1));
        start.leavesAll(Desk.BIG, desk -> desk.combine(1, kind, 0, 1));
    }

    private static void sum() {
        Checks.sentence("Promise 3", "their sum (kind 0)");
        makes(SUM, LESS, "1", MOST);
        makes(SUM, "-" + LESS, "-1", "-" + MOST);
        makes(SUM, MOST, "0", MOST);
        makes(SUM, MOST, "-" + MOST, "0");
        makes(SUM, "-1/3", "1/3", "0");
        for (int n : Edges.FULL_LIMBS) {
            makes(SUM, Edges.plus(Edges.two(n), -1), "1", Edges.two(n));
            makes(SUM, Edges.two(n), "-1", Edges.plus(Edges.two(n), -1));
        }
        makes(SUM, "1/" + BELOW_ROOT, "-1/" + ABOVE_ROOT, "2/" + MOST);
        // small enough only when common divisors are taken away
        makes(SUM, MOST + "/2", MOST + "/2", MOST);
        makes(SUM, "1/" + HALF, "1/" + HALF, "1/" + Edges.two(2046));
        makesOfItself(SUM, "1/" + HALF, "1/" + Edges.two(2046));
    }

    private static void difference() {
        Checks.sentence("Promise 3", "difference (1)");
        makes(DIFFERENCE, LESS, "-1", MOST);
        makes(DIFFERENCE, "-" + LESS, "1", "-" + MOST);
        makes(DIFFERENCE, "0", MOST, "-" + MOST);
        makes(DIFFERENCE, LESS, MOST, "-1");
        makes(DIFFERENCE, "-1/" + MOST, "-1/" + MOST, "0");
        makes(DIFFERENCE, "1/" + BELOW_ROOT, "1/" + ABOVE_ROOT, "2/" + MOST);
        makes(DIFFERENCE, MOST + "/2", "-" + MOST + "/2", MOST);
        makesOfItself(DIFFERENCE, "-" + MOST + "/" + LESS, "0");
    }

    private static void product() {
        Checks.sentence("Promise 3", "product (2)");
        makes(PRODUCT, ROOT, Edges.two(1023), HALF);
        makes(PRODUCT, "1/" + ROOT, "-1/" + Edges.two(1023), "-1/" + HALF);
        makes(PRODUCT, BELOW_ROOT, ABOVE_ROOT, MOST);
        makes(PRODUCT, "-1/" + BELOW_ROOT, "-1/" + ABOVE_ROOT, "1/" + MOST);
        makes(PRODUCT, MOST, "-1", "-" + MOST);
        makes(PRODUCT, "-" + MOST + "/" + LESS, "0", "0");
        makes(PRODUCT, MOST + "/" + LESS, LESS + "/" + MOST, "1");
        makes(PRODUCT, MOST, LESS + "/" + MOST, LESS);
        makesOfItself(PRODUCT, "-1", "1");
    }

    private static void quotient() {
        Checks.sentence("Promise 3", "quotient (3)");
        makes(QUOTIENT, Edges.two(2046), "1/2", HALF);
        makes(QUOTIENT, "1/" + Edges.two(2046), "-2", "-1/" + HALF);
        makes(QUOTIENT, MOST, "-1", "-" + MOST);
        makes(QUOTIENT, "-1", MOST, "-1/" + MOST);
        makes(QUOTIENT, "1", "-1/" + MOST, "-" + MOST);
        makes(QUOTIENT, "0", "-" + MOST, "0");
        makes(QUOTIENT, MOST, LESS, MOST + "/" + LESS);
        makes(QUOTIENT, "-" + MOST, "-" + MOST, "1");
        makesOfItself(QUOTIENT, "-" + MOST + "/" + LESS, "1");
    }

    private static void lesserAndGreater() {
        Checks.sentence("Promise 3", "the lesser (4), the greater (5)");
        expectLesser("0", "1/" + MOST);
        expectLesser("-1/" + MOST, "0");
        expectLesser("-" + MOST, MOST);
        expectLesser(LESS, MOST);
        expectLesser("1/" + MOST, "1/" + LESS);
        expectLesser("-" + MOST + "/" + LESS, "-1");
        expectLesser(LESS + "/" + MOST, "1");
        expectLesser("-5/3", "-5/3");
        expectLesser("0", "0");
        makesOfItself(LESSER, "-5/3", "-5/3");
        makesOfItself(GREATER, "-5/3", "-5/3");
    }

    private static void expectLesser(String a, String b) {
        makes(LESSER, a, b, a);
        makes(LESSER, b, a, a);
        makes(GREATER, a, b, b);
        makes(GREATER, b, a, b);
    }

    private static void wholeQuotient() {
        Checks.sentence("Promise 3", "the greatest whole number that is not above their quotient (6)");
        makes(WHOLE_QUOTIENT, "6", "3", "2");
        makes(WHOLE_QUOTIENT, "-6", "3", "-2");
        makes(WHOLE_QUOTIENT, "-5", "3", "-2");
        makes(WHOLE_QUOTIENT, "5", "-3", "-2");
        makes(WHOLE_QUOTIENT, "-5", "-3", "1");
        makes(WHOLE_QUOTIENT, "0", "-" + MOST, "0");
        makes(WHOLE_QUOTIENT, "1/" + MOST, MOST, "0");
        makes(WHOLE_QUOTIENT, "-1/" + MOST, MOST, "-1");
        makes(WHOLE_QUOTIENT, LESS, MOST, "0");
        makes(WHOLE_QUOTIENT, LESS, "-" + MOST, "-1");
        makes(WHOLE_QUOTIENT, MOST, "-1", "-" + MOST);
        makesOfItself(WHOLE_QUOTIENT, "-" + MOST + "/" + LESS, "1");
    }

    private static void rest() {
        Checks.sentence("Promise 3", "the first less the second so many times (7)");
        makes(REST, "6", "3", "0");
        makes(REST, "-6", "3", "0");
        makes(REST, "-5", "3", "1");
        makes(REST, "5", "-3", "-1");
        makes(REST, "-5", "-3", "-2");
        makes(REST, "0", "-" + MOST, "0");
        makes(REST, LESS, MOST, LESS);
        makes(REST, "-1", MOST, LESS);
        makes(REST, "1", "-" + MOST, "-" + LESS);
        makes(REST, "1/" + BELOW_ROOT, "1/" + ABOVE_ROOT, "2/" + MOST);
        makes(REST, "1/" + MOST, "1/" + LESS, "1/" + MOST);
        makes(REST, "-1", MOST + "/" + LESS, "1/" + LESS);
        makesOfItself(REST, "-" + MOST + "/" + LESS, "0");
        // how many times would not be small enough, but what is left is
        makes(REST, MOST, "3/" + HALF, "0");
        makes(REST, MOST, "7/" + HALF, "3/" + Edges.two(2046));
    }

    private static void commonDivisor() {
        Checks.sentence("Promise 3", "their greatest common divisor (8: 0 of 0 and 0, otherwise above 0)");
        makes(COMMON_DIVISOR, "0", "0", "0");
        makesOfItself(COMMON_DIVISOR, "0", "0");
        makes(COMMON_DIVISOR, "0", "-18", "18");
        makes(COMMON_DIVISOR, "-18", "0", "18");
        makes(COMMON_DIVISOR, "-12", "-18", "6");
        makes(COMMON_DIVISOR, "-1", "1", "1");
        makes(COMMON_DIVISOR, "-" + MOST, MOST, MOST);
        makes(COMMON_DIVISOR, MOST, LESS, "1");
        makes(COMMON_DIVISOR, MOST, "-" + ABOVE_ROOT, ABOVE_ROOT);
        makesOfItself(COMMON_DIVISOR, "-" + MOST, MOST);
    }

    private static void big() {
        Checks.sentence("Promise 3", "It is 0, or BIG");
        sumBig();
        productBig();
        wholeQuotientBig();
        restBig();
        neverBig();
    }

    private static void sumBig() {
        big(SUM, MOST, "1");
        big(SUM, "-1", "-" + MOST);
        big(SUM, HALF, HALF);
        big(SUM, LESS + "/3", "2/3");
        big(SUM, "1/" + MOST, "1/2");
        big(DIFFERENCE, MOST, "-1");
        big(DIFFERENCE, "-" + MOST, "1");
        big(DIFFERENCE, "1/" + ROOT, "1/" + ABOVE_ROOT);
        Start.of(MOST).leavesAll(Desk.BIG, desk -> desk.combine(0, SUM, 0, 0));
    }

    private static void productBig() {
        big(PRODUCT, ROOT, ROOT);
        big(PRODUCT, "-1/" + ROOT, "1/" + ROOT);
        big(PRODUCT, HALF, "-2");
        big(PRODUCT, MOST, LESS);
        big(PRODUCT, "1/" + MOST, "1/" + LESS);
        big(QUOTIENT, HALF, "1/2");
        big(QUOTIENT, "-1/" + HALF, "2");
        big(QUOTIENT, MOST, "1/" + MOST);
        big(QUOTIENT, "1/" + MOST, MOST);
        Start.of(MOST).leavesAll(Desk.BIG, desk -> desk.combine(0, PRODUCT, 0, 0));
    }

    private static void wholeQuotientBig() {
        big(WHOLE_QUOTIENT, HALF, "1/2");
        big(WHOLE_QUOTIENT, "-" + HALF, "1/2");
        big(WHOLE_QUOTIENT, MOST, "1/" + MOST);
        // its size is below 2^2048 before it is rounded, and 2^2048 then
        makes(WHOLE_QUOTIENT, TWO_SEVENTHS_OF_MOST, "2/7", MOST);
        big(WHOLE_QUOTIENT, "-" + TWO_SEVENTHS_OF_MOST, "2/7");
        big(WHOLE_QUOTIENT, TWO_SEVENTHS_OF_MOST, "-2/7");
        makes(WHOLE_QUOTIENT, "-" + TWO_SEVENTHS_OF_MOST, "-2/7", MOST);
        // the quotient itself is not small enough, but the whole number is
        makes(WHOLE_QUOTIENT, MOST + "/" + LESS, LESS + "/" + MOST, "1");
        makes(WHOLE_QUOTIENT, "-" + MOST + "/" + LESS, LESS + "/" + MOST, "-2");
    }

    private static void restBig() {
        big(REST, "1/" + LESS, "1/" + MOST);
        big(REST, "1/" + ROOT, "1/" + ABOVE_ROOT);
        big(REST, "1/" + MOST, "-1/" + LESS);
    }

    private static void neverBig() {
        makes(LESSER, "-" + MOST + "/" + LESS, MOST, "-" + MOST + "/" + LESS);
        makes(GREATER, "1/" + MOST, "-" + MOST, "1/" + MOST);
        makes(COMMON_DIVISOR, MOST, "0", MOST);
    }

    private static void zero() {
        Checks.sentence("Promise 3", "ZERO (3, 6, 7, if the second is 0)");
        for (String first : new String[] {"5/3", "-7", "0", MOST, "-1/" + MOST}) {
            for (int kind : new int[] {QUOTIENT, WHOLE_QUOTIENT, REST}) {
                Start.of(first, "0").leavesAll(Desk.ZERO, desk -> desk.combine(2, kind, 0, 1));
                Start.of(first, "0").leavesAll(Desk.ZERO, desk -> desk.combine(1, kind, 0, 1));
            }
        }
        Start.of("0").leavesAll(Desk.ZERO, desk -> desk.combine(0, QUOTIENT, 0, 0));
        noZeroElsewhere();
    }

    private static void noZeroElsewhere() {
        makes(SUM, "-7", "0", "-7");
        makes(DIFFERENCE, "-7", "0", "-7");
        makes(PRODUCT, "-7", "0", "0");
        makes(LESSER, "-7", "0", "-7");
        makes(GREATER, "-7", "0", "0");
        makes(COMMON_DIVISOR, "-7", "0", "7");
        makes(QUOTIENT, "0", "-7", "0");
        makes(WHOLE_QUOTIENT, "0", "-7", "0");
        makes(REST, "0", "-7", "0");
    }

    private static void noRegister() {
        Checks.sentence("Promise 3", "IllegalArgumentException when there is no such register");
        Start start = Start.of("0", "1", MOST);
        for (int wrong : Edges.NO_REGISTERS) {
            for (int each = SUM; each <= COMMON_DIVISOR; each++) {
                int kind = each;
                start.leavesAll(Desk.REFUSED, desk -> desk.combine(wrong, kind, 1, 1));
                start.leavesAll(Desk.REFUSED, desk -> desk.combine(1, kind, wrong, 1));
                start.leavesAll(Desk.REFUSED, desk -> desk.combine(1, kind, 1, wrong));
                // neither ZERO nor BIG
                start.leavesAll(Desk.REFUSED, desk -> desk.combine(wrong, kind, 1, 0));
                start.leavesAll(Desk.REFUSED, desk -> desk.combine(1, kind, wrong, 0));
                start.leavesAll(Desk.REFUSED, desk -> desk.combine(wrong, kind, 2, 1));
            }
        }
    }

    private static void noKind() {
        Checks.sentence("Promise 3", "no such register or kind");
        for (int wrong : new int[] {-1, 9, Integer.MIN_VALUE, Integer.MAX_VALUE}) {
            Start.of("3", "2").leavesAll(Desk.REFUSED, desk -> desk.combine(2, wrong, 0, 1));
            Start.of("3", "0").leavesAll(Desk.REFUSED, desk -> desk.combine(0, wrong, 0, 1));
        }
    }

    private static void notWhole() {
        Checks.sentence("Promise 3", "or, in 8, one is not whole");
        for (String whole : new String[] {"5", "0", "-1", MOST}) {
            Start start = Start.of(whole, "5/3", "-1/" + MOST);
            start.leavesAll(Desk.REFUSED, desk -> desk.combine(3, COMMON_DIVISOR, 0, 1));
            start.leavesAll(Desk.REFUSED, desk -> desk.combine(0, COMMON_DIVISOR, 1, 0));
            start.leavesAll(Desk.REFUSED, desk -> desk.combine(0, COMMON_DIVISOR, 0, 2));
            start.leavesAll(Desk.REFUSED, desk -> desk.combine(1, COMMON_DIVISOR, 1, 2));
            start.leavesAll(Desk.REFUSED, desk -> desk.combine(1, COMMON_DIVISOR, 1, 1));
        }
    }
}
