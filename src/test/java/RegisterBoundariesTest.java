import java.math.BigInteger;

/** The boundary cases that the document names for registers: its first lines, Terms, and the promises 1, 2, 4 and 5. */
public final class RegisterBoundariesTest {
    private RegisterBoundariesTest() {
    }

    public static void main(String[] args) {
        lastCall();
        zeroIsZeroAndOne();
        smallEnough();
        sixteenRegisters();
        lessThanZeroLeavesAll();
        throwingLeavesAll();
        newObject();
        set();
        setNoRegister();
        setBottomZero();
        otherSignAndSize();
        turnedOver();
        rounded();
        topAndBottom();
        changeZero();
        changeRefuses();
        power();
        powerOfZeroForZero();
        powerBig();
        powerZero();
        powerNoRegister();
        powerNoSuchN();
        Checks.end("RegisterBoundariesTest");
    }

    // the document's first lines, and Terms

    private static void lastCall() {
        Checks.sentence("What it is", "An object is used for at most 512 calls after it has been made");
        Desk desk = new Desk();
        desk.set(1, 1, 1);
        for (int i = desk.left(); i > 1; i--) {
            desk.combine(0, 0, 0, 1);
        }
        Checks.same("calls left", Integer.toString(desk.left()), "1");
        Checks.same("the last call", desk.part(0, 0, 0), Integer.toString(Desk.MOST_CALLS - 2));
    }

    private static void zeroIsZeroAndOne() {
        Checks.sentence("Terms", "BOTTOM above 0 (0 is 0 and 1)");
        Start.of().makes(0, "0/1", desk -> desk.set(0, 0, -5));
        Start.of("-5/3").makes(2, "0/1", desk -> desk.combine(2, 1, 0, 0));
        Start.of("-5/3", "0").makes(2, "0/1", desk -> desk.combine(2, 2, 0, 1));
        Start.of("-5/3", "0").makes(2, "0/1", desk -> desk.combine(2, 3, 1, 0));
        Start.of("0").makes(2, "0/1", desk -> desk.change(2, 0, 0));
        Start.of("-5/3").makes(2, "-3/5", desk -> desk.change(2, 2, 0));
        Start.of("0").makes(2, "0/1", desk -> desk.power(2, 0, 3));
        Start.of("-5/3").makes(2, "-27/125", desk -> desk.power(2, 0, -3));
        Start.of().typed("-0/7").reads("0/1");
    }

    private static void smallEnough() {
        Checks.sentence("Terms", "It is SMALL ENOUGH, if the size of TOP, and BOTTOM, are below 2^2048.");
        Start.of().typed(Edges.MOST).reads(Edges.MOST);
        Start.of().typed("-" + Edges.MOST).reads("-" + Edges.MOST);
        Start.of().typed("1/" + Edges.MOST).reads("1/" + Edges.MOST);
        Start.of().typed(Edges.MOST + "/" + Edges.LESS).reads(Edges.MOST + "/" + Edges.LESS);
        Start.of().typed("-" + Edges.LESS + "/" + Edges.MOST).reads("-" + Edges.LESS + "/" + Edges.MOST);
        Start.of().typed(Edges.TOO_GREAT.toString()).leavesAll(Desk.BIG, desk -> desk.read(0));
        Start.of().typed("-" + Edges.TOO_GREAT).leavesAll(Desk.BIG, desk -> desk.read(0));
        Start.of().typed("1/" + Edges.TOO_GREAT).leavesAll(Desk.BIG, desk -> desk.read(0));
    }

    private static void sixteenRegisters() {
        Checks.sentence("Terms", "REGISTERS 0 .. 15 have a fraction each, small enough, at first 0.");
        for (int each = 0; each < Start.REGISTERS; each++) {
            int a = each;
            Start.of().makes(a, "7/9", desk -> desk.set(a, 7, 9));
            Start.of().makes(a, -2 * (a + 1) + "/17", desk -> desk.combine(a, 0, a, a));
            Start.of().makes(a, (a + 1) + "/17", desk -> desk.change(a, 0, a));
            Start.of().makes(a, "1", desk -> desk.power(a, a, 0));
            Start.of().leavesAll("0", desk -> desk.order(a, a));
            Start.of().leavesAll("-1", desk -> desk.sign(a));
            Start.of().leavesAll("5", desk -> desk.places(a, 1));
            Start.of().leavesAll("17", desk -> desk.part(a, 1, 0));
            String text = -(a + 1) + "/17";
            Start.of().makesText(Integer.toString(text.length()), text, desk -> desk.write(a));
        }
    }

    private static void lessThanZeroLeavesAll() {
        Checks.sentence("Terms", "What is answered by less than 0 leaves all as it was");
        Start most = Start.of(Edges.MOST, "1/" + Edges.MOST, "0", "1");
        most.leavesAll(Desk.BIG, desk -> desk.combine(0, 0, 0, 3));
        most.leavesAll(Desk.BIG, desk -> desk.combine(1, 3, 0, 1));
        most.leavesAll(Desk.BIG, desk -> desk.power(0, 0, 2));
        most.leavesAll(Desk.ZERO, desk -> desk.combine(0, 6, 0, 2));
        most.leavesAll(Desk.ZERO, desk -> desk.change(0, 2, 2));
        most.leavesAll(Desk.ZERO, desk -> desk.power(0, 2, -1));
        most.leavesAll("-1", desk -> desk.order(1, 0));
        most.leavesAll("-1", desk -> desk.sign(4));
        most.leavesAll(Desk.NONE, desk -> desk.type(Desk.packed("12345678"), 9));
        most.leavesAll(Desk.NONE, desk -> desk.character(1400));
        Start.of().typed(Edges.TOO_GREAT.toString()).leavesAll(Desk.BIG, desk -> desk.read(0));
        Desk fresh = new Desk();
        Checks.same("place()", fresh.place(), Desk.NONE);
        Checks.same("place() again", fresh.place(), Desk.NONE);
    }

    private static void throwingLeavesAll() {
        Checks.sentence("Terms", "so does a call that throws (but read(), the place)");
        Start start = Start.of("5/3", "0");
        start.leavesAll(Desk.REFUSED, desk -> desk.set(0, 1, 0));
        start.leavesAll(Desk.REFUSED, desk -> desk.combine(0, 8, 0, 1));
        start.leavesAll(Desk.REFUSED, desk -> desk.change(0, 7, 0));
        start.leavesAll(Desk.REFUSED, desk -> desk.power(0, 0, 2049));
        start.leavesAll(Desk.REFUSED, desk -> desk.order(0, 16));
        start.leavesAll(Desk.REFUSED, desk -> desk.sign(16));
        start.leavesAll(Desk.REFUSED, desk -> desk.places(0, 2));
        start.leavesAll(Desk.REFUSED, desk -> desk.part(0, 2, 0));
        start.leavesAll(Desk.REFUSED, desk -> desk.write(16));
        start.leavesAll(Desk.REFUSED, desk -> desk.read(16));
        start.typed("7/8 ").readsNone(3);
    }

    // Promise 1

    private static void newObject() {
        Checks.sentence("Promise 1", "All registers have 0; the text is empty.");
        Look look = new Look(desk -> { });
        for (int a = 0; a < Start.REGISTERS; a++) {
            Checks.same("register " + a, look.fraction(a), "0/1");
        }
        Desk desk = new Desk();
        Checks.same("character(0)", desk.character(0), Desk.NONE);
        Checks.same("wipe()", desk.wipe(), "0");
    }

    // Promise 2

    private static void set() {
        Checks.sentence("Promise 2", "A register becomes top / bottom.");
        // the size of the lowest long is no long
        expectSet(Long.MIN_VALUE, 1, "-9223372036854775808");
        expectSet(Long.MIN_VALUE, -1, "9223372036854775808");
        expectSet(1, Long.MIN_VALUE, "-1/9223372036854775808");
        expectSet(-1, Long.MIN_VALUE, "1/9223372036854775808");
        expectSet(Long.MIN_VALUE, Long.MIN_VALUE, "1");
        expectSet(Long.MIN_VALUE, Long.MAX_VALUE, "-9223372036854775808/9223372036854775807");
        expectSet(Long.MAX_VALUE, Long.MIN_VALUE, "-9223372036854775807/9223372036854775808");
        expectSet(Long.MAX_VALUE, -1, "-9223372036854775807");
        expectSet(Long.MAX_VALUE, Long.MAX_VALUE, "1");
        expectSet(0, 1, "0");
        expectSet(0, Long.MIN_VALUE, "0");
        expectSet(0, Long.MAX_VALUE, "0");
    }

    private static void expectSet(long top, long bottom, String fraction) {
        Start.of().makes(4, fraction, desk -> desk.set(4, top, bottom));
    }

    private static void setNoRegister() {
        Checks.sentence("Promise 2", "IllegalArgumentException when there is no such register");
        for (int wrong : Edges.NO_REGISTERS) {
            Start.of().leavesAll(Desk.REFUSED, desk -> desk.set(wrong, 1, 1));
        }
    }

    private static void setBottomZero() {
        Checks.sentence("Promise 2", "or bottom is 0");
        Start.of().leavesAll(Desk.REFUSED, desk -> desk.set(3, 1, 0));
        Start.of().leavesAll(Desk.REFUSED, desk -> desk.set(3, 0, 0));
        Start.of().leavesAll(Desk.REFUSED, desk -> desk.set(3, Long.MIN_VALUE, 0));
        Start.of().leavesAll(Desk.REFUSED, desk -> desk.set(16, 1, 0));
    }

    // Promise 4

    private static void expectChange(int kind, String fraction, String want) {
        Start.of(fraction).makes(1, want, desk -> desk.change(1, kind, 0));
        Start.of(fraction).makes(0, want, desk -> desk.change(0, kind, 0));
    }

    private static void otherSignAndSize() {
        Checks.sentence("Promise 4", "the fraction with the other sign (kind 0), its size (1)");
        expectChange(0, "0", "0");
        expectChange(0, Edges.MOST, "-" + Edges.MOST);
        expectChange(0, "-1/" + Edges.MOST, "1/" + Edges.MOST);
        expectChange(1, "0", "0");
        expectChange(1, "-" + Edges.MOST, Edges.MOST);
        expectChange(1, "-1/" + Edges.MOST, "1/" + Edges.MOST);
    }

    private static void turnedOver() {
        Checks.sentence("Promise 4", "1 / it (2)");
        expectChange(2, "1", "1");
        expectChange(2, "-1", "-1");
        expectChange(2, Edges.MOST, "1/" + Edges.MOST);
        expectChange(2, "-" + Edges.MOST, "-1/" + Edges.MOST);
        expectChange(2, "-1/" + Edges.MOST, "-" + Edges.MOST);
        expectChange(2, "-" + Edges.LESS + "/" + Edges.MOST, "-" + Edges.MOST + "/" + Edges.LESS);
    }

    private static void rounded() {
        Checks.sentence("Promise 4",
            "the greatest whole number that is not above it (3), the least that is not below it (4)");
        expectRounded("0", "0", "0");
        expectRounded("-4", "-4", "-4");
        expectRounded("1/" + Edges.MOST, "0", "1");
        expectRounded("-1/" + Edges.MOST, "-1", "0");
        expectRounded(Edges.LESS + "/" + Edges.MOST, "0", "1");
        expectRounded(Edges.MOST + "/" + Edges.LESS, "1", "2");
        expectRounded("-" + Edges.MOST + "/" + Edges.LESS, "-2", "-1");
        for (int n : Edges.FULL_LIMBS) {
            String two = Edges.two(n);
            String half = Edges.plus(Edges.two(n + 1), -1) + "/2";
            expectRounded(half, Edges.plus(two, -1), two);
            expectRounded("-" + half, "-" + two, Edges.plus("-" + two, 1));
        }
        expectRounded(Edges.MOST, Edges.MOST, Edges.MOST);
        expectRounded("-" + Edges.MOST, "-" + Edges.MOST, "-" + Edges.MOST);
    }

    private static void expectRounded(String fraction, String down, String up) {
        expectChange(3, fraction, down);
        expectChange(4, fraction, up);
    }

    private static void topAndBottom() {
        Checks.sentence("Promise 4", "its TOP (5), its BOTTOM (6)");
        expectChange(5, "0", "0");
        expectChange(6, "0", "1");
        expectChange(5, "-7", "-7");
        expectChange(6, "-7", "1");
        expectChange(5, "-" + Edges.MOST + "/" + Edges.LESS, "-" + Edges.MOST);
        expectChange(6, "-" + Edges.LESS + "/" + Edges.MOST, Edges.MOST);
    }

    private static void changeZero() {
        Checks.sentence("Promise 4", "It is 0, or ZERO (2).");
        Start.of("0").leavesAll(Desk.ZERO, desk -> desk.change(1, 2, 0));
        Start.of("0").leavesAll(Desk.ZERO, desk -> desk.change(0, 2, 0));
        for (int other : new int[] {0, 1, 3, 4, 5}) {
            Start.of("0").makes(1, "0", desk -> desk.change(1, other, 0));
        }
        Start.of("0").makes(1, "1", desk -> desk.change(1, 6, 0));
    }

    private static void changeRefuses() {
        Checks.sentence("Promise 4", "IllegalArgumentException when there is no such register or kind.");
        Start start = Start.of("0");
        for (int wrong : Edges.NO_REGISTERS) {
            for (int each = 0; each <= 6; each++) {
                int kind = each;
                start.leavesAll(Desk.REFUSED, desk -> desk.change(wrong, kind, 1));
                start.leavesAll(Desk.REFUSED, desk -> desk.change(1, kind, wrong));
            }
            // not ZERO
            start.leavesAll(Desk.REFUSED, desk -> desk.change(wrong, 2, 0));
        }
        for (int wrong : new int[] {-1, 7, Integer.MIN_VALUE, Integer.MAX_VALUE}) {
            start.leavesAll(Desk.REFUSED, desk -> desk.change(1, wrong, 1));
        }
    }

    // Promise 5

    private static void expectPower(String fraction, int n, String want) {
        Start.of(fraction).makes(1, want, desk -> desk.power(1, 0, n));
        Start.of(fraction).makes(0, want, desk -> desk.power(0, 0, n));
    }

    private static void power() {
        Checks.sentence("Promise 5", "A register becomes a power of another one, n from -2048 to 2048");
        expectPower("1", 2048, "1");
        expectPower("1", -2048, "1");
        expectPower("-1", 2048, "1");
        expectPower("-1", 2047, "-1");
        expectPower("-1", -2047, "-1");
        expectPower("-1", -2048, "1");
        expectPower("0", 1, "0");
        expectPower("0", 2048, "0");
        expectPower("-5/3", 1, "-5/3");
        expectPower("-5/3", -1, "-3/5");
        expectPower(Edges.MOST, -1, "1/" + Edges.MOST);
    }

    private static void powerOfZeroForZero() {
        Checks.sentence("Promise 5", "(of 0 for n 0: 1)");
        expectPower("0", 0, "1");
        expectPower("-5/3", 0, "1");
        expectPower("-" + Edges.MOST, 0, "1");
        expectPower("1/" + Edges.MOST, 0, "1");
    }

    private static void powerBig() {
        Checks.sentence("Promise 5", "0, BIG");
        expectPower("2", 2047, Edges.HALF);
        expectPower("2", -2047, "1/" + Edges.HALF);
        expectPower("-1/2", 2047, "-1/" + Edges.HALF);
        expectPower("-1/2", -2047, "-" + Edges.HALF);
        expectPower("3", 1292, Edges.power(3, 1292));
        expectPower("-2/3", -1291, "-" + Edges.power(3, 1291) + "/" + Edges.two(1291));
        expectPower(Edges.MOST, 1, Edges.MOST);
        BigInteger root = BigInteger.TWO.pow(1024).subtract(BigInteger.ONE);
        expectPower(root.toString(), 2, root.pow(2).toString());
        expectPower(root.toString(), -2, "1/" + root.pow(2));
        for (String each : new String[] {"2", "-2", "1/2", "3/2", "2/3", Edges.MOST, "-1/" + Edges.MOST}) {
            Start.of(each).leavesAll(Desk.BIG, desk -> desk.power(1, 0, 2048));
            Start.of(each).leavesAll(Desk.BIG, desk -> desk.power(0, 0, -2048));
        }
        Start.of("2/3").leavesAll(Desk.BIG, desk -> desk.power(1, 0, 1293));
        Start.of("2/3").leavesAll(Desk.BIG, desk -> desk.power(1, 0, -1293));
        Start.of("3/2").leavesAll(Desk.BIG, desk -> desk.power(1, 0, 1293));
        Start.of(Edges.two(1024)).leavesAll(Desk.BIG, desk -> desk.power(1, 0, 2));
        Start.of(Edges.two(1024)).leavesAll(Desk.BIG, desk -> desk.power(1, 0, -2));
    }

    private static void powerZero() {
        Checks.sentence("Promise 5", "or ZERO (0 for n below 0)");
        for (int n : new int[] {-1, -2, -2047, -2048}) {
            Start.of("0").leavesAll(Desk.ZERO, desk -> desk.power(1, 0, n));
            Start.of("0").leavesAll(Desk.ZERO, desk -> desk.power(0, 0, n));
        }
    }

    private static void powerNoRegister() {
        Checks.sentence("Promise 5", "IllegalArgumentException when there is no such register");
        for (int wrong : Edges.NO_REGISTERS) {
            Start.of("0").leavesAll(Desk.REFUSED, desk -> desk.power(wrong, 1, 2));
            Start.of("0").leavesAll(Desk.REFUSED, desk -> desk.power(1, wrong, 2));
            // neither ZERO nor BIG
            Start.of("0").leavesAll(Desk.REFUSED, desk -> desk.power(wrong, 0, -1));
            Start.of("2").leavesAll(Desk.REFUSED, desk -> desk.power(wrong, 0, 2048));
        }
    }

    private static void powerNoSuchN() {
        Checks.sentence("Promise 5", "or no such n");
        for (int wrong : new int[] {-2049, 2049, Integer.MIN_VALUE, Integer.MAX_VALUE}) {
            Start.of("0", "1", "2").leavesAll(Desk.REFUSED, desk -> desk.power(3, 0, wrong));
            Start.of("0", "1", "2").leavesAll(Desk.REFUSED, desk -> desk.power(3, 1, wrong));
            Start.of("0", "1", "2").leavesAll(Desk.REFUSED, desk -> desk.power(3, 2, wrong));
        }
    }
}
