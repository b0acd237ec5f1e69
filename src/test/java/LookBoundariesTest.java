import java.math.BigInteger;

/** The boundary cases that the document names for looking at registers: the promises 6 to 9. */
public final class LookBoundariesTest {
    private static final int WORD_BITS = 32;
    private static final int LIMB_BITS = 31;
    private static final int[] NO_WHICH = {-1, 2, Integer.MIN_VALUE, Integer.MAX_VALUE};

    private LookBoundariesTest() {
    }

    public static void main(String[] args) {
        order();
        orderNoRegister();
        sign();
        signNoRegister();
        places();
        placesOfZero();
        placesRefuses();
        part();
        partBeyond();
        partRefuses();
        Checks.end("LookBoundariesTest");
    }

    private static void order() {
        Checks.sentence("Promise 6",
            "-1, 0 or 1: whether a register's fraction is less than another one's, the same, greater.");
        expectOrder("0", "0", "0", "0");
        expectOrder("0", "1/" + Edges.MOST, "-1", "1");
        expectOrder("-1/" + Edges.MOST, "0", "-1", "1");
        expectOrder("-1/" + Edges.MOST, "1/" + Edges.MOST, "-1", "1");
        expectOrder("-" + Edges.MOST, Edges.MOST, "-1", "1");
        expectOrder(Edges.LESS, Edges.MOST, "-1", "1");
        expectOrder("-" + Edges.MOST, "-" + Edges.LESS, "-1", "1");
        expectOrder("1/" + Edges.MOST, "1/" + Edges.LESS, "-1", "1");
        expectOrder("-5/3", "-5/3", "0", "0");
        String most = Edges.MOST + "/" + Edges.LESS;
        expectOrder(most, most, "0", "0");
        // the two differ by 1 / (LESS MOST) alone
        String next = Edges.plus(Edges.LESS, -1) + "/" + Edges.LESS;
        expectOrder(next, Edges.LESS + "/" + Edges.MOST, "-1", "1");
        expectOrder("-" + Edges.LESS + "/" + Edges.MOST, "-" + next, "-1", "1");
    }

    private static void expectOrder(String a, String b, String want, String turned) {
        Start.of(a, b).leavesAll(want, desk -> desk.order(0, 1));
        Start.of(a, b).leavesAll(turned, desk -> desk.order(1, 0));
        Start.of(a).leavesAll("0", desk -> desk.order(0, 0));
    }

    private static void orderNoRegister() {
        Checks.sentence("Promise 6", "IllegalArgumentException when there is no such register.");
        for (int wrong : Edges.NO_REGISTERS) {
            Start.of().leavesAll(Desk.REFUSED, desk -> desk.order(wrong, 0));
            Start.of().leavesAll(Desk.REFUSED, desk -> desk.order(0, wrong));
            Start.of().leavesAll(Desk.REFUSED, desk -> desk.order(wrong, wrong));
        }
    }

    private static void sign() {
        Checks.sentence("Promise 7", "-1, 0 or 1: whether it is below 0, 0, above.");
        Start.of("0").leavesAll("0", desk -> desk.sign(0));
        Start.of("1/" + Edges.MOST).leavesAll("1", desk -> desk.sign(0));
        Start.of("-1/" + Edges.MOST).leavesAll("-1", desk -> desk.sign(0));
        Start.of(Edges.MOST).leavesAll("1", desk -> desk.sign(0));
        Start.of("-" + Edges.MOST).leavesAll("-1", desk -> desk.sign(0));
        Edges.expectOfZeros("0", desk -> desk.sign(0));
    }

    private static void signNoRegister() {
        Checks.sentence("Promise 7", "IllegalArgumentException likewise.");
        for (int wrong : Edges.NO_REGISTERS) {
            Start.of().leavesAll(Desk.REFUSED, desk -> desk.sign(wrong));
        }
    }

    private static void places() {
        Checks.sentence("Promise 8", "How many binary places the size of TOP (which 0) or BOTTOM (1) has");
        for (int n = 0; n < 2048; n++) {
            if (n % LIMB_BITS < 2 || n % WORD_BITS < 2 || n > 2045) {
                String two = Edges.two(n);
                expectPlaces("-" + two, 0, n + 1);
                expectPlaces("1/" + two, 1, n + 1);
                expectPlaces(Edges.plus(two, -1), 0, n);
            }
        }
        expectPlaces(Edges.MOST, 0, 2048);
        expectPlaces("-1/" + Edges.MOST, 1, 2048);
        expectPlaces("-" + Edges.MOST, 1, 1);
        expectPlaces("-1/" + Edges.MOST, 0, 1);
    }

    private static void expectPlaces(String fraction, int which, int want) {
        Desk desk = new Desk();
        desk.put(0, fraction);
        Checks.same("places(0, " + which + ") of " + fraction, desk.places(0, which), Integer.toString(want));
    }

    private static void placesOfZero() {
        Checks.sentence("Promise 8", "0 for 0");
        Start.of("0").leavesAll("0", desk -> desk.places(0, 0));
        Start.of("0").leavesAll("1", desk -> desk.places(0, 1));
    }

    private static void placesRefuses() {
        Checks.sentence("Promise 8", "IllegalArgumentException when there is no such register or which.");
        for (int wrong : Edges.NO_REGISTERS) {
            Start.of().leavesAll(Desk.REFUSED, desk -> desk.places(wrong, 0));
            Start.of().leavesAll(Desk.REFUSED, desk -> desk.places(wrong, 1));
        }
        for (int wrong : NO_WHICH) {
            Start.of().leavesAll(Desk.REFUSED, desk -> desk.places(0, wrong));
        }
    }

    private static void part() {
        Checks.sentence("Promise 9", "it divided by 2^(32 k), cut off, of that the rest by 2^32");
        // no two parts of these are the same, and most have their highest bit
        BigInteger top = Edges.TOO_GREAT.subtract(BigInteger.valueOf(3)).divide(BigInteger.valueOf(19));
        BigInteger bottom = top.multiply(BigInteger.valueOf(11)).add(BigInteger.ONE);
        Desk desk = new Desk();
        desk.put(3, "-" + top + "/" + bottom);
        for (int k = 0; k < 64; k++) {
            Checks.same("part(3, 0, " + k + ")", desk.part(3, 0, k), part(top, k));
            Checks.same("part(3, 1, " + k + ")", desk.part(3, 1, k), part(bottom, k));
        }
        Start.of(Edges.MOST).leavesAll("4294967295", desk1 -> desk1.part(0, 0, 0));
        Start.of(Edges.MOST).leavesAll("4294967295", desk1 -> desk1.part(0, 0, 63));
        Start.of("-1/" + Edges.HALF).leavesAll("2147483648", desk1 -> desk1.part(0, 1, 63));
        Start.of("-1/" + Edges.HALF).leavesAll("0", desk1 -> desk1.part(0, 1, 62));
        Start.of("0").leavesAll("0", desk1 -> desk1.part(0, 0, 0));
        Start.of("0").leavesAll("1", desk1 -> desk1.part(0, 1, 0));
    }

    private static String part(BigInteger number, int k) {
        return number.shiftRight(WORD_BITS * k).and(BigInteger.valueOf(0xFFFFFFFFL)).toString();
    }

    private static void partBeyond() {
        Checks.sentence("Promise 9", "0 for k below 0, or beyond");
        // 32 times 2^27 is 0, and 32 times 2^27 + 1 is 32, where an int wraps round
        int[] outside = {-1, -2, -64, -(1 << 27), Integer.MIN_VALUE, 64, 65, 66, 67, 68, 128,
            1 << 26, 1 << 27, (1 << 27) + 1, 1 << 28, Integer.MAX_VALUE};
        String most = Edges.MOST + "/" + Edges.LESS;
        for (int k : outside) {
            Start.of(most).leavesAll("0", desk -> desk.part(0, 0, k));
            Start.of(most).leavesAll("0", desk -> desk.part(0, 1, k));
        }
        Start.of("7").leavesAll("0", desk -> desk.part(0, 0, 1));
        Start.of("7").leavesAll("0", desk -> desk.part(0, 1, 1));
        // what a greater number left above is gone
        Desk desk = new Desk();
        desk.put(0, most);
        desk.set(0, 4294967296L, 5);
        Checks.same("part(0, 0, 1)", desk.part(0, 0, 1), "1");
        Checks.same("part(0, 0, 2)", desk.part(0, 0, 2), "0");
        Checks.same("part(0, 1, 1)", desk.part(0, 1, 1), "0");
    }

    private static void partRefuses() {
        Checks.sentence("Promise 9", "IllegalArgumentException likewise.");
        for (int k : new int[] {0, -1, 64}) {
            for (int wrong : Edges.NO_REGISTERS) {
                Start.of().leavesAll(Desk.REFUSED, desk -> desk.part(wrong, 0, k));
                Start.of().leavesAll(Desk.REFUSED, desk -> desk.part(wrong, 1, k));
            }
            for (int wrong : NO_WHICH) {
                Start.of().leavesAll(Desk.REFUSED, desk -> desk.part(0, wrong, k));
            }
        }
    }
}
