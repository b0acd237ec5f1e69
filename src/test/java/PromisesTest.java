import java.math.BigInteger;

/** Each promise of the document by itself: ordinary inputs, the edges that it names, and wrong inputs. */
public final class PromisesTest {
    private static final int[] NO_REGISTERS = {-1, 16, 17, Integer.MIN_VALUE, Integer.MAX_VALUE};
    private static final BigInteger EDGE = BigInteger.ONE.shiftLeft(2048);
    private static final String MOST = EDGE.subtract(BigInteger.ONE).toString();

    private PromisesTest() {
    }

    public static void main(String[] args) {
        newObject();
        set();
        setRefuses();
        sumsAndProducts();
        lesserAndGreater();
        wholeQuotientAndRest();
        commonDivisor();
        combineBig();
        combineZero();
        combineRefuses();
        combineOnItself();
        change();
        changeRefuses();
        power();
        powerBig();
        powerRefuses();
        order();
        sign();
        places();
        part();
        write();
        type();
        wipe();
        character();
        read();
        readBig();
        readRefuses();
        place();
        Checks.end("PromisesTest");
    }

    // Promise 1

    private static void newObject() {
        FractionDesk desk = new FractionDesk();
        for (int a = 0; a < 16; a++) {
            Checks.same("new register " + a, Checks.fraction(desk, a), "0/1");
        }
        Checks.due("new text", desk.character(0), FractionDesk.NONE);
        Checks.due("new wipe", desk.wipe(), 0);
        Checks.due("new place", desk.place(), FractionDesk.NONE);
    }

    // Promise 2

    private static void set() {
        expectSet(6, 4, "3/2");
        expectSet(6, -4, "-3/2");
        expectSet(-6, 4, "-3/2");
        expectSet(-6, -4, "3/2");
        expectSet(0, 7, "0/1");
        expectSet(0, -7, "0/1");
        expectSet(0, Long.MIN_VALUE, "0/1");
        expectSet(12, 3, "4/1");
        expectSet(Long.MAX_VALUE, 1, "9223372036854775807/1");
        expectSet(Long.MAX_VALUE, Long.MAX_VALUE, "1/1");
        expectSet(Long.MIN_VALUE, 1, "-9223372036854775808/1");
        expectSet(Long.MIN_VALUE, -1, "9223372036854775808/1");
        expectSet(Long.MIN_VALUE, Long.MIN_VALUE, "1/1");
        expectSet(1, Long.MIN_VALUE, "-1/9223372036854775808");
        expectSet(Long.MIN_VALUE, Long.MAX_VALUE, "-9223372036854775808/9223372036854775807");
        expectSet(1L << 62, 1L << 61, "2/1");
    }

    private static void expectSet(long top, long bottom, String want) {
        FractionDesk desk = new FractionDesk();
        for (int to = 0; to < 16; to += 5) {
            desk.set(to, top, bottom);
            Checks.same("set " + top + " " + bottom, Checks.fraction(desk, to), want);
        }
        Checks.same("set, another register", Checks.fraction(desk, 1), "0/1");
    }

    private static void setRefuses() {
        FractionDesk desk = new FractionDesk();
        desk.set(3, 5, 7);
        for (int wrong : NO_REGISTERS) {
            Checks.refused("set register " + wrong, () -> setFor(desk, wrong, 1, 1));
        }
        Checks.refused("set bottom 0", () -> setFor(desk, 3, 1, 0));
        Checks.refused("set 0 by 0", () -> setFor(desk, 3, 0, 0));
        Checks.same("set refused", Checks.fraction(desk, 3), "5/7");
    }

    private static long setFor(FractionDesk desk, int to, long top, long bottom) {
        desk.set(to, top, bottom);
        return 0;
    }

    // Promise 3

    private static void sumsAndProducts() {
        expectCombine(0, "1/6", "1/10", "4/15");
        expectCombine(0, "1/6", "-1/6", "0/1");
        expectCombine(0, "-1/2", "-1/2", "-1/1");
        expectCombine(0, "-3/4", "1/4", "-1/2");
        expectCombine(0, "1/4", "-3/4", "-1/2");
        expectCombine(0, "0", "-3/4", "-3/4");
        expectCombine(1, "1/6", "1/10", "1/15");
        expectCombine(1, "1/10", "1/6", "-1/15");
        expectCombine(1, "0", "5", "-5/1");
        expectCombine(1, "-5", "-5", "0/1");
        expectCombine(1, "-5", "0", "-5/1");
        expectCombine(2, "-2/3", "9/4", "-3/2");
        expectCombine(2, "-2/3", "-3/2", "1/1");
        expectCombine(2, "-2/3", "0", "0/1");
        expectCombine(3, "-2/3", "4/9", "-3/2");
        expectCombine(3, "0", "-4/9", "0/1");
        expectCombine(3, "7", "-7", "-1/1");
        expectCombine(2, "2147483647/2147483648", "2147483648/4294967295", "2147483647/4294967295");
        expectCombine(2, "9223372036854775807", "9223372036854775807", "85070591730234615847396907784232501249/1");
    }

    private static void expectCombine(int kind, String a, String b, String want) {
        FractionDesk desk = new FractionDesk();
        Checks.put(desk, 0, a);
        Checks.put(desk, 15, b);
        String call = "combine " + kind + " of " + a + " and " + b;
        Checks.due(call, desk.combine(7, kind, 0, 15), 0);
        Checks.same(call, Checks.fraction(desk, 7), want);
    }

    private static void lesserAndGreater() {
        expectCombine(4, "1/2", "1/3", "1/3");
        expectCombine(4, "1/3", "1/2", "1/3");
        expectCombine(4, "-1/2", "-1/3", "-1/2");
        expectCombine(4, "5", "5", "5/1");
        expectCombine(5, "1/2", "1/3", "1/2");
        expectCombine(5, "-1/2", "-1/3", "-1/3");
        expectCombine(5, "-1/2", "0", "0/1");
        expectCombine(5, "1/3", "1/2", "1/2");
    }

    private static void wholeQuotientAndRest() {
        expectCombine(6, "7", "2", "3/1");
        expectCombine(6, "-7", "2", "-4/1");
        expectCombine(6, "7", "-2", "-4/1");
        expectCombine(6, "-7", "-2", "3/1");
        expectCombine(6, "-8", "2", "-4/1");
        expectCombine(6, "0", "-2", "0/1");
        expectCombine(6, "-1/5", "7", "-1/1");
        expectCombine(6, "1/5", "7", "0/1");
        expectCombine(6, "7/3", "2/5", "5/1");
        expectCombine(7, "7", "2", "1/1");
        expectCombine(7, "-7", "2", "1/1");
        expectCombine(7, "7", "-2", "-1/1");
        expectCombine(7, "-7", "-2", "-1/1");
        expectCombine(7, "-8", "2", "0/1");
        expectCombine(7, "7/3", "2/5", "1/3");
        expectCombine(7, "-7/3", "2/5", "1/15");
        expectCombine(7, "7/3", "-2/5", "-1/15");
        expectCombine(7, "1/5", "7", "1/5");
        expectCombine(7, "0", "-7", "0/1");
        // the quotient alone would not be small enough, but the rest is
        expectCombine(7, MOST, "3/" + EDGE.shiftRight(1), "0/1");
        expectCombine(7, MOST, "7/" + EDGE.shiftRight(1), "3/" + EDGE.shiftRight(2));
    }

    private static void commonDivisor() {
        expectCombine(8, "12", "18", "6/1");
        expectCombine(8, "-12", "18", "6/1");
        expectCombine(8, "-12", "-18", "6/1");
        expectCombine(8, "0", "-18", "18/1");
        expectCombine(8, "-12", "0", "12/1");
        expectCombine(8, "0", "0", "0/1");
        expectCombine(8, "1", "-1", "1/1");
        expectCombine(8, MOST, MOST, MOST + "/1");
        BigInteger third = EDGE.subtract(BigInteger.ONE).divide(BigInteger.valueOf(3));
        expectCombine(8, MOST, third.toString(), third + "/1");
    }

    private static void combineBig() {
        expectCombine(0, MOST, "0", MOST + "/1");
        expectBig(0, MOST, "1");
        expectBig(0, "-" + MOST, "-1");
        expectBig(1, "-" + MOST, "1");
        expectBig(1, "1/" + MOST, "1/2");
        expectBig(2, MOST, "2");
        expectBig(2, "1/" + MOST, "1/2");
        expectBig(3, MOST, "1/2");
        expectBig(3, "1/" + MOST, "-2");
        expectBig(6, MOST, "1/2");
        // rounding down alone brings it to -2^2048
        String seventh = EDGE.shiftLeft(1).subtract(BigInteger.ONE).divide(BigInteger.valueOf(7)).toString();
        expectBig(6, "-" + seventh, "2/7");
        expectCombine(6, seventh, "2/7", MOST + "/1");
        String less = EDGE.subtract(BigInteger.TWO).toString();
        expectBig(7, "1/" + less, "1/" + MOST);
        expectCombine(7, "1/" + MOST, "1/" + less, "1/" + MOST);
        expectCombine(2, MOST + "/2", "2/3", EDGE.subtract(BigInteger.ONE).divide(BigInteger.valueOf(3)) + "/1");
        expectCombine(3, MOST, MOST, "1/1");
        expectCombine(0, MOST + "/2", MOST + "/2", MOST + "/1");
    }

    private static void expectBig(int kind, String a, String b) {
        FractionDesk desk = new FractionDesk();
        Checks.put(desk, 0, a);
        Checks.put(desk, 1, b);
        desk.set(2, 3, 4);
        Checks.typeAll(desk, "kept");
        Checks.due("combine " + kind + " of " + a + " and " + b, desk.combine(2, kind, 0, 1), FractionDesk.BIG);
        Checks.same("the register after BIG", Checks.fraction(desk, 2), "3/4");
        Checks.same("the text after BIG", Checks.text(desk), "kept");
        expectSame(desk, 0, a);
        expectSame(desk, 1, b);
    }

    private static void expectSame(FractionDesk desk, int a, String want) {
        Checks.same("register " + a, Checks.fraction(desk, a), want.contains("/") ? want : want + "/1");
    }

    private static void combineZero() {
        FractionDesk desk = new FractionDesk();
        desk.set(0, 5, 3);
        desk.set(2, 3, 4);
        for (int kind : new int[] {3, 6, 7}) {
            Checks.due("combine " + kind + " by 0", desk.combine(2, kind, 0, 1), FractionDesk.ZERO);
            Checks.due("combine " + kind + " of 0 by 0", desk.combine(2, kind, 1, 1), FractionDesk.ZERO);
            Checks.same("after ZERO", Checks.fraction(desk, 2), "3/4");
        }
    }

    private static void combineRefuses() {
        FractionDesk desk = new FractionDesk();
        desk.set(0, 5, 3);
        desk.set(1, 5, 1);
        for (int wrong : NO_REGISTERS) {
            for (int kind = 0; kind <= 8; kind++) {
                int of = kind;
                Checks.refused("combine to " + wrong, () -> desk.combine(wrong, of, 1, 1));
                Checks.refused("combine a " + wrong, () -> desk.combine(1, of, wrong, 1));
                // a quotient by 0 is still refused first
                Checks.refused("combine b " + wrong, () -> desk.combine(wrong, of, 1, 2));
                Checks.refused("combine b " + wrong, () -> desk.combine(1, of, 1, wrong));
            }
        }
        for (int wrong : new int[] {-1, 9, 10, Integer.MIN_VALUE, Integer.MAX_VALUE}) {
            Checks.refused("combine kind " + wrong, () -> desk.combine(1, wrong, 1, 1));
        }
        Checks.refused("divisor of 5/3 and 5", () -> desk.combine(1, 8, 0, 1));
        Checks.refused("divisor of 5 and 5/3", () -> desk.combine(1, 8, 1, 0));
        Checks.refused("divisor of 5/3 and 0", () -> desk.combine(1, 8, 0, 2));
        expectSame(desk, 0, "5/3");
        expectSame(desk, 1, "5");
    }

    private static void combineOnItself() {
        String[] wants = {"3/1", "0/1", "9/4", "1/1", "3/2", "3/2", "1/1", "0/1"};
        for (int kind = 0; kind < wants.length; kind++) {
            FractionDesk desk = new FractionDesk();
            desk.set(4, 3, 2);
            Checks.due("combine on itself", desk.combine(4, kind, 4, 4), 0);
            Checks.same("combine " + kind + " on itself", Checks.fraction(desk, 4), wants[kind]);
        }
    }

    // Promise 4

    private static void change() {
        expectChange("-7/2", "7/2", "7/2", "-2/7", "-4/1", "-3/1", "-7/1", "2/1");
        expectChange("7/2", "-7/2", "7/2", "2/7", "3/1", "4/1", "7/1", "2/1");
        expectChange("4", "-4/1", "4/1", "1/4", "4/1", "4/1", "4/1", "1/1");
        expectChange("-4", "4/1", "4/1", "-1/4", "-4/1", "-4/1", "-4/1", "1/1");
        expectChange("1/3", "-1/3", "1/3", "3/1", "0/1", "1/1", "1/1", "3/1");
        expectChange("-1/3", "1/3", "1/3", "-3/1", "-1/1", "0/1", "-1/1", "3/1");
        expectChange("0", "0/1", "0/1", "ZERO", "0/1", "0/1", "0/1", "1/1");
        expectChange("-" + MOST, MOST + "/1", MOST + "/1", "-1/" + MOST, "-" + MOST + "/1", "-" + MOST + "/1",
            "-" + MOST + "/1", "1/1");
        expectChange("1/" + MOST, "-1/" + MOST, "1/" + MOST, MOST + "/1", "0/1", "1/1", "1/1", MOST + "/1");
    }

    private static void expectChange(String a, String... wants) {
        for (int kind = 0; kind < wants.length; kind++) {
            FractionDesk desk = new FractionDesk();
            desk.set(2, 1, 9);
            Checks.put(desk, 0, a);
            boolean zero = wants[kind].equals("ZERO");
            Checks.due("change " + kind + " of " + a, desk.change(2, kind, 0), zero ? FractionDesk.ZERO : 0);
            Checks.same("change " + kind + " of " + a, Checks.fraction(desk, 2), zero ? "1/9" : wants[kind]);
            expectSame(desk, 0, a);
            desk.change(0, kind, 0);
            Checks.same("change " + kind + " on itself", Checks.fraction(desk, 0), zero ? "0/1" : wants[kind]);
        }
    }

    private static void changeRefuses() {
        FractionDesk desk = new FractionDesk();
        for (int wrong : NO_REGISTERS) {
            for (int kind = 0; kind <= 6; kind++) {
                int of = kind;
                Checks.refused("change to " + wrong, () -> desk.change(wrong, of, 0));
                Checks.refused("change a " + wrong, () -> desk.change(0, of, wrong));
            }
        }
        for (int wrong : new int[] {-1, 7, 8, Integer.MIN_VALUE, Integer.MAX_VALUE}) {
            Checks.refused("change kind " + wrong, () -> desk.change(0, wrong, 0));
        }
    }

    // Promise 5

    private static void power() {
        expectPower("-2/3", 3, "-8/27");
        expectPower("-2/3", 4, "16/81");
        expectPower("-2/3", -3, "-27/8");
        expectPower("-2/3", -4, "81/16");
        expectPower("-2/3", 1, "-2/3");
        expectPower("-2/3", -1, "-3/2");
        expectPower("-2/3", 0, "1/1");
        expectPower("0", 0, "1/1");
        expectPower("0", 1, "0/1");
        expectPower("0", 2048, "0/1");
        expectPower("1", 2048, "1/1");
        expectPower("-1", 2047, "-1/1");
        expectPower("-1", -2047, "-1/1");
        expectPower("-1", -2048, "1/1");
        expectPower("3", 1292, BigInteger.valueOf(3).pow(1292) + "/1");
        expectPower("3", -1292, "1/" + BigInteger.valueOf(3).pow(1292));
        expectPower("-3/2", 1291, "-" + BigInteger.valueOf(3).pow(1291) + "/" + BigInteger.TWO.pow(1291));
        expectPower("2", 2047, BigInteger.TWO.pow(2047) + "/1");
        expectPower(MOST, 1, MOST + "/1");
        expectPower(MOST, -1, "1/" + MOST);
        expectPower(MOST, 0, "1/1");
    }

    private static void expectPower(String a, int n, String want) {
        FractionDesk desk = new FractionDesk();
        Checks.put(desk, 9, a);
        String call = "power " + n + " of " + a;
        Checks.due(call, desk.power(3, 9, n), 0);
        Checks.same(call, Checks.fraction(desk, 3), want);
        expectSame(desk, 9, a);
        Checks.due(call, desk.power(9, 9, n), 0);
        Checks.same(call + " on itself", Checks.fraction(desk, 9), want);
    }

    private static void powerBig() {
        expectNoPower("2", 2048, FractionDesk.BIG);
        expectNoPower("2", -2048, FractionDesk.BIG);
        expectNoPower("-1/2", 2048, FractionDesk.BIG);
        expectNoPower("3", 1293, FractionDesk.BIG);
        expectNoPower("2/3", 1293, FractionDesk.BIG);
        expectNoPower("3/2", -1293, FractionDesk.BIG);
        expectNoPower(MOST, 2, FractionDesk.BIG);
        expectNoPower(MOST, 2048, FractionDesk.BIG);
        expectNoPower("1/" + MOST, -2048, FractionDesk.BIG);
        expectNoPower("0", -1, FractionDesk.ZERO);
        expectNoPower("0", -2048, FractionDesk.ZERO);
    }

    private static void expectNoPower(String a, int n, int want) {
        FractionDesk desk = new FractionDesk();
        Checks.put(desk, 9, a);
        desk.set(3, -4, 5);
        Checks.due("power " + n + " of " + a, desk.power(3, 9, n), want);
        Checks.same("the register after it", Checks.fraction(desk, 3), "-4/5");
        desk.power(9, 9, n);
        expectSame(desk, 9, a);
    }

    private static void powerRefuses() {
        FractionDesk desk = new FractionDesk();
        for (int wrong : NO_REGISTERS) {
            Checks.refused("power to " + wrong, () -> desk.power(wrong, 0, 1));
            Checks.refused("power a " + wrong, () -> desk.power(0, wrong, -1));
        }
        for (int wrong : new int[] {-2049, 2049, Integer.MIN_VALUE, Integer.MAX_VALUE}) {
            Checks.refused("power n " + wrong, () -> desk.power(0, 0, wrong));
        }
    }

    // Promises 6 and 7

    private static void order() {
        expectOrder("1/3", "1/2", -1);
        expectOrder("-1/3", "-1/2", 1);
        expectOrder("-1/3", "1/2", -1);
        expectOrder("0", "1/" + MOST, -1);
        expectOrder("0", "-1/" + MOST, 1);
        expectOrder("5/7", "10/14", 0);
        expectOrder("-5/7", "-10/14", 0);
        expectOrder("0", "0/9", 0);
        expectOrder(MOST, "9223372036854775807", 1);
        String less = EDGE.subtract(BigInteger.TWO).toString();
        expectOrder(less + "/" + MOST, MOST + "/" + less, -1);
        // the two differ by 1 / (MOST less)
        BigInteger least = EDGE.subtract(BigInteger.valueOf(3));
        expectOrder(least + "/" + less, less + "/" + MOST, -1);
        FractionDesk desk = new FractionDesk();
        for (int wrong : NO_REGISTERS) {
            Checks.refused("order a " + wrong, () -> desk.order(wrong, 0));
            Checks.refused("order b " + wrong, () -> desk.order(0, wrong));
        }
    }

    private static void expectOrder(String a, String b, int want) {
        FractionDesk desk = new FractionDesk();
        Checks.put(desk, 0, a);
        Checks.put(desk, 1, b);
        Checks.due("order of " + a + " and " + b, desk.order(0, 1), want);
        Checks.due("order of " + b + " and " + a, desk.order(1, 0), -want);
        Checks.due("order with itself", desk.order(1, 1), 0);
    }

    private static void sign() {
        FractionDesk desk = new FractionDesk();
        Checks.put(desk, 0, "1/" + MOST);
        Checks.put(desk, 1, "-1/" + MOST);
        Checks.put(desk, 2, "-0/5");
        Checks.due("sign above", desk.sign(0), 1);
        Checks.due("sign below", desk.sign(1), -1);
        Checks.due("sign of -0", desk.sign(2), 0);
        Checks.due("sign of 0", desk.sign(15), 0);
        for (int wrong : NO_REGISTERS) {
            Checks.refused("sign " + wrong, () -> desk.sign(wrong));
        }
    }

    // Promises 8 and 9

    private static void places() {
        FractionDesk desk = new FractionDesk();
        Checks.due("places of 0", desk.places(0, 0), 0);
        Checks.due("places of its bottom", desk.places(0, 1), 1);
        for (int n = 0; n < 2048; n++) {
            BigInteger two = BigInteger.ONE.shiftLeft(n);
            if (n % 31 < 2 || n % 32 < 2 || n > 2040) {
                Checks.put(desk, 1, "-" + two);
                Checks.due("places of 2^" + n, desk.places(1, 0), n + 1);
                Checks.put(desk, 1, "1/" + two);
                Checks.due("places below the line of 2^" + n, desk.places(1, 1), n + 1);
                Checks.put(desk, 1, two.subtract(BigInteger.ONE).toString());
                Checks.due("places of 2^" + n + " - 1", desk.places(1, 0), n);
            }
        }
        for (int wrong : NO_REGISTERS) {
            Checks.refused("places " + wrong, () -> desk.places(wrong, 0));
            Checks.refused("part " + wrong, () -> desk.part(wrong, 0, 0));
        }
        for (int wrong : new int[] {-1, 2, Integer.MIN_VALUE, Integer.MAX_VALUE}) {
            Checks.refused("places which " + wrong, () -> desk.places(0, wrong));
            Checks.refused("part which " + wrong, () -> desk.part(0, wrong, 0));
        }
    }

    private static void part() {
        BigInteger top = EDGE.subtract(BigInteger.ONE).divide(BigInteger.valueOf(11));
        BigInteger bottom = EDGE.subtract(BigInteger.ONE).divide(BigInteger.valueOf(13));
        BigInteger divisor = top.gcd(bottom);
        FractionDesk desk = new FractionDesk();
        Checks.put(desk, 5, "-" + top + "/" + bottom);
        BigInteger word = BigInteger.ONE.shiftLeft(32);
        for (int k = 0; k < 70; k++) {
            long above = top.divide(divisor).shiftRight(32 * k).mod(word).longValue();
            long under = bottom.divide(divisor).shiftRight(32 * k).mod(word).longValue();
            Checks.due("part 0 " + k, desk.part(5, 0, k), above);
            Checks.due("part 1 " + k, desk.part(5, 1, k), under);
        }
        Checks.put(desk, 6, MOST);
        Checks.due("the highest part", desk.part(6, 0, 63), 0xFFFFFFFFL);
        for (int k : new int[] {64, 65, 66, 67, 68, 1 << 27, Integer.MAX_VALUE, -1, Integer.MIN_VALUE}) {
            Checks.due("part " + k, desk.part(6, 0, k), 0);
        }
    }

    // Promises 10 to 13

    private static void write() {
        expectWrite("0", "0");
        expectWrite("-0", "0");
        expectWrite("6/4", "3/2");
        expectWrite("-6/4", "-3/2");
        expectWrite("-6/3", "-2");
        expectWrite("1000000000", "1000000000");
        expectWrite("999999999/1000000000", "999999999/1000000000");
        expectWrite("1000000000000000001/1000000000000000000", "1000000000000000001/1000000000000000000");
        expectWrite("120034/10", "60017/5");
        String less = EDGE.subtract(BigInteger.TWO).toString();
        expectWrite("-" + MOST + "/" + less, "-" + MOST + "/" + less);
        FractionDesk desk = new FractionDesk();
        Checks.typeAll(desk, "kept");
        for (int wrong : NO_REGISTERS) {
            Checks.refused("write " + wrong, () -> desk.write(wrong));
        }
        Checks.same("the text after a refused write", Checks.text(desk), "kept");
    }

    private static void expectWrite(String a, String want) {
        FractionDesk desk = new FractionDesk();
        Checks.put(desk, 0, a);
        Checks.typeAll(desk, "what stood there before");
        Checks.due("write of " + a, desk.write(0), want.length());
        Checks.same("write of " + a, Checks.text(desk), want);
        Checks.due("behind it", desk.character(want.length()), FractionDesk.NONE);
    }

    private static void type() {
        FractionDesk desk = new FractionDesk();
        Checks.due("type 1", desk.type(Checks.packed("a"), 1), 1);
        Checks.due("type 8", desk.type(Checks.packed("bcdefghi"), 8), 9);
        Checks.due("type the lowest 2", desk.type(Checks.packed("xxxxxxjk"), 2), 11);
        Checks.due("type, higher bytes aside", desk.type(-1L << 16 | Checks.packed(" ~"), 2), 13);
        Checks.same("typed", Checks.text(desk), "abcdefghijk ~");
        for (int n : new int[] {0, -1, 9, Integer.MIN_VALUE, Integer.MAX_VALUE}) {
            Checks.due("type n " + n, desk.type(Checks.packed("aaaaaaaa"), n), FractionDesk.NONE);
        }
        for (int wrong : new int[] {0, 31, 127, 128, 255}) {
            Checks.due("type " + wrong, desk.type(wrong, 1), FractionDesk.NONE);
            long first = (long) wrong << 56 | Checks.packed("aaaaaaa");
            long last = Checks.packed("aa") << 8 | wrong;
            Checks.due("type " + wrong + " first", desk.type(first, 8), FractionDesk.NONE);
            Checks.due("type " + wrong + " last", desk.type(last, 3), FractionDesk.NONE);
        }
        Checks.same("nothing put", Checks.text(desk), "abcdefghijk ~");
        typeToTheEnd();
    }

    private static void typeToTheEnd() {
        FractionDesk desk = new FractionDesk();
        Checks.typeAll(desk, "7".repeat(1399));
        Checks.due("two more", desk.type(Checks.packed("77"), 2), FractionDesk.NONE);
        Checks.due("the last one", desk.type(Checks.packed("8"), 1), 1400);
        Checks.due("one more", desk.type(Checks.packed("7"), 1), FractionDesk.NONE);
        Checks.due("the last character", desk.character(1399), '8');
        Checks.due("behind it", desk.character(1400), FractionDesk.NONE);
    }

    private static void wipe() {
        FractionDesk desk = new FractionDesk();
        Checks.typeAll(desk, "twelve chars");
        Checks.due("wipe", desk.wipe(), 12);
        Checks.due("wipe again", desk.wipe(), 0);
        Checks.due("nothing left", desk.character(0), FractionDesk.NONE);
        Checks.due("type afterwards", desk.type('x', 1), 1);
    }

    private static void character() {
        FractionDesk desk = new FractionDesk();
        Checks.typeAll(desk, "abc");
        Checks.due("character 0", desk.character(0), 'a');
        Checks.due("character 2", desk.character(2), 'c');
        for (int i : new int[] {3, -1, 1400, Integer.MIN_VALUE, Integer.MAX_VALUE}) {
            Checks.due("character " + i, desk.character(i), FractionDesk.NONE);
        }
    }

    // Promises 14 and 15

    private static void read() {
        expectRead("0", "0/1");
        expectRead("-0", "0/1");
        expectRead("-0/12", "0/1");
        expectRead("007", "7/1");
        expectRead("-0012/0008", "-3/2");
        expectRead("6/3", "2/1");
        expectRead("123456789012345678901234567890", "123456789012345678901234567890/1");
        expectRead("0".repeat(1399) + "5", "5/1");
        expectRead("-" + "0".repeat(698) + "6/" + "0".repeat(698) + "4", "-3/2");
        expectRead(MOST, MOST + "/1");
        expectRead("-1/" + MOST, "-1/" + MOST);
        expectRead(MOST + "/" + MOST, "1/1");
        expectRead("0".repeat(700) + MOST, MOST + "/1");
    }

    private static void expectRead(String row, String want) {
        FractionDesk desk = new FractionDesk();
        Checks.put(desk, 15, row);
        Checks.same("read of " + row, Checks.fraction(desk, 15), want);
        Checks.due("the text after it", desk.wipe(), 0);
        Checks.due("the place after it", desk.place(), FractionDesk.NONE);
    }

    private static void readBig() {
        expectReadBig(EDGE.toString());
        expectReadBig("-" + EDGE);
        expectReadBig("1/" + EDGE);
        expectReadBig("0/" + EDGE);
        expectReadBig(EDGE + "/" + EDGE);
        expectReadBig(EDGE + "/2");
        expectReadBig("2/" + EDGE);
        expectReadBig("9".repeat(1400));
        expectReadBig("1/" + "9".repeat(1398));
        expectReadBig(EDGE + "0");
    }

    private static void expectReadBig(String row) {
        FractionDesk desk = new FractionDesk();
        desk.set(4, 5, 6);
        Checks.typeAll(desk, row);
        Checks.due("read of " + row, desk.read(4), FractionDesk.BIG);
        Checks.same("the text after BIG", Checks.text(desk), row);
        Checks.same("the register after BIG", Checks.fraction(desk, 4), "5/6");
        Checks.due("the place after BIG", desk.place(), FractionDesk.NONE);
    }

    private static void readRefuses() {
        FractionDesk desk = new FractionDesk();
        for (int wrong : NO_REGISTERS) {
            Checks.refused("read to " + wrong, () -> desk.read(wrong));
        }
        Checks.due("the place after no such register", desk.place(), FractionDesk.NONE);
        Checks.typeAll(desk, "12");
        for (int wrong : NO_REGISTERS) {
            Checks.refused("read of 12 to " + wrong, () -> desk.read(wrong));
        }
        Checks.same("the text after it", Checks.text(desk), "12");
    }

    private static void place() {
        expectPlace("", 0);
        expectPlace("-", 1);
        expectPlace("--1", 1);
        expectPlace("+1", 0);
        expectPlace(" 1", 0);
        expectPlace("1 ", 1);
        expectPlace("/", 0);
        expectPlace("/2", 0);
        expectPlace("-/2", 1);
        expectPlace("12-", 2);
        expectPlace("12.5", 2);
        expectPlace("12/", 3);
        expectPlace("12//3", 3);
        expectPlace("12/-3", 3);
        expectPlace("12/3/4", 4);
        expectPlace("12/3 ", 4);
        expectPlace("12/0", 4);
        expectPlace("12/000", 6);
        expectPlace("12/00x", 5);
        expectPlace("12/0/1", 4);
        expectPlace("0/0", 3);
        expectPlace("1:", 1);
        expectPlace("9".repeat(1399) + "x", 1399);
        expectPlace("9".repeat(700) + "/" + "0".repeat(699), 1400);
        placeStays();
    }

    private static void expectPlace(String row, int want) {
        FractionDesk desk = new FractionDesk();
        desk.set(4, 5, 6);
        Checks.typeAll(desk, row);
        Checks.same("read of '" + row + "'", Checks.told(() -> desk.read(4)), "throws.IllegalStateException");
        Checks.due("the place in '" + row + "'", desk.place(), want);
        Checks.same("the text after it", Checks.text(desk), row);
        Checks.same("the register after it", Checks.fraction(desk, 4), "5/6");
        Checks.refused("no such register comes first", () -> desk.read(16));
        Checks.due("the place is still that in '" + row + "'", desk.place(), want);
    }

    private static void placeStays() {
        FractionDesk desk = new FractionDesk();
        Checks.typeAll(desk, "123x");
        Checks.same("read", Checks.told(() -> desk.read(0)), "throws.IllegalStateException");
        Checks.put(desk, 0, "1/2");
        Checks.due("the place after a read that told one", desk.place(), 3);
        Checks.typeAll(desk, EDGE.toString());
        Checks.due("read", desk.read(0), FractionDesk.BIG);
        Checks.due("the place after BIG", desk.place(), 3);
        desk.wipe();
        Checks.due("the place after wipe", desk.place(), 3);
        Checks.same("read", Checks.told(() -> desk.read(0)), "throws.IllegalStateException");
        Checks.due("the latest place", desk.place(), 0);
    }
}
