import java.math.BigInteger;

/** Each promise of the document with ordinary inputs; the boundary cases have tests of their own. */
public final class PromisesTest {
    private PromisesTest() {
    }

    public static void main(String[] args) {
        newObject();
        set();
        sumAndDifference();
        productAndQuotient();
        lesserAndGreater();
        wholeQuotientAndRest();
        commonDivisor();
        change();
        power();
        order();
        sign();
        places();
        part();
        write();
        type();
        wipeAndCharacter();
        read();
        place();
        Checks.end("PromisesTest");
    }

    private static void newObject() {
        Checks.sentence("Promise 1", "All registers have 0; the text is empty.");
        Desk desk = new Desk();
        for (int a = 0; a < Start.REGISTERS; a++) {
            Checks.same("sign(" + a + ")", desk.sign(a), "0");
            Checks.same("write(" + a + ")", desk.write(a), "1");
            Checks.same("wipe()", desk.wipe(), "1");
        }
    }

    private static void set() {
        Checks.sentence("Promise 2", "A register becomes top / bottom.");
        Start.of().makes(3, "3/2", desk -> desk.set(3, 6, 4));
        Start.of().makes(3, "-3/2", desk -> desk.set(3, 6, -4));
        Start.of().makes(3, "-3/2", desk -> desk.set(3, -6, 4));
        Start.of().makes(3, "3/2", desk -> desk.set(3, -6, -4));
        Start.of().makes(3, "4", desk -> desk.set(3, 12, 3));
        Start.of().makes(3, "2", desk -> desk.set(3, 1L << 62, 1L << 61));
    }

    private static void combine(int kind, String a, String b, String want) {
        Start.of(a, b).makes(9, want, desk -> desk.combine(9, kind, 0, 1));
    }

    private static void sumAndDifference() {
        Checks.sentence("Promise 3", "their sum (kind 0), difference (1)");
        combine(0, "1/6", "1/10", "4/15");
        combine(0, "-1/2", "-1/2", "-1");
        combine(0, "-3/4", "1/4", "-1/2");
        combine(0, "1/4", "-3/4", "-1/2");
        combine(1, "1/6", "1/10", "1/15");
        combine(1, "1/10", "1/6", "-1/15");
        combine(1, "-5/7", "2/7", "-1");
    }

    private static void productAndQuotient() {
        Checks.sentence("Promise 3", "product (2), quotient (3)");
        combine(2, "-2/3", "9/4", "-3/2");
        combine(2, "-2/3", "-3/2", "1");
        combine(2, "2147483647/2147483648", "2147483648/4294967295", "2147483647/4294967295");
        combine(2, "9223372036854775807", "9223372036854775807", "85070591730234615847396907784232501249");
        combine(3, "-2/3", "4/9", "-3/2");
        combine(3, "7", "-7", "-1");
    }

    private static void lesserAndGreater() {
        Checks.sentence("Promise 3", "the lesser (4), the greater (5)");
        combine(4, "1/2", "1/3", "1/3");
        combine(4, "1/3", "1/2", "1/3");
        combine(4, "-1/2", "-1/3", "-1/2");
        combine(5, "1/2", "1/3", "1/2");
        combine(5, "1/3", "1/2", "1/2");
        combine(5, "-1/2", "-1/3", "-1/3");
    }

    private static void wholeQuotientAndRest() {
        Checks.sentence("Promise 3", "the greatest whole number that is not above their quotient (6)");
        combine(6, "7", "2", "3");
        combine(6, "-7", "2", "-4");
        combine(6, "7", "-2", "-4");
        combine(6, "-7", "-2", "3");
        combine(6, "7/3", "2/5", "5");
        Checks.sentence("Promise 3", "the first less the second so many times (7)");
        combine(7, "7", "2", "1");
        combine(7, "-7", "2", "1");
        combine(7, "7", "-2", "-1");
        combine(7, "-7", "-2", "-1");
        combine(7, "7/3", "2/5", "1/3");
        combine(7, "-7/3", "2/5", "1/15");
        combine(7, "7/3", "-2/5", "-1/15");
    }

    private static void commonDivisor() {
        Checks.sentence("Promise 3", "or, if both are whole, their greatest common divisor");
        combine(8, "12", "18", "6");
        combine(8, "-12", "18", "6");
        combine(8, "35", "-18", "1");
        BigInteger third = Edges.TOO_GREAT.subtract(BigInteger.ONE).divide(BigInteger.valueOf(3));
        combine(8, Edges.MOST, third.toString(), third.toString());
    }

    private static void change() {
        Checks.sentence("Promise 4", "A register becomes of another one");
        changes("7/2", "-7/2", "7/2", "2/7", "3", "4", "7", "2");
        changes("-7/2", "7/2", "7/2", "-2/7", "-4", "-3", "-7", "2");
        changes("4", "-4", "4", "1/4", "4", "4", "4", "1");
        changes("-1/3", "1/3", "1/3", "-3", "-1", "0", "-1", "3");
    }

    private static void changes(String a, String... wants) {
        for (int each = 0; each < wants.length; each++) {
            int kind = each;
            Start.of(a).makes(9, wants[kind], desk -> desk.change(9, kind, 0));
        }
    }

    private static void power() {
        Checks.sentence("Promise 5", "A register becomes a power of another one");
        raises("-2/3", 3, "-8/27");
        raises("-2/3", 4, "16/81");
        raises("-2/3", -3, "-27/8");
        raises("-2/3", -4, "81/16");
        raises("10", 100, "1" + "0".repeat(100));
        raises("-7/5", 99, "-" + Edges.power(7, 99) + "/" + Edges.power(5, 99));
    }

    private static void raises(String a, int n, String want) {
        Start.of(a).makes(9, want, desk -> desk.power(9, 0, n));
    }

    private static void order() {
        Checks.sentence("Promise 6", "whether a register's fraction is less than another one's, the same, greater");
        Start.of("1/3", "1/2").leavesAll("-1", desk -> desk.order(0, 1));
        Start.of("1/2", "1/3").leavesAll("1", desk -> desk.order(0, 1));
        Start.of("-1/3", "-1/2").leavesAll("1", desk -> desk.order(0, 1));
        Start.of("-1/3", "1/2").leavesAll("-1", desk -> desk.order(0, 1));
        Start.of("5/7", "5/7").leavesAll("0", desk -> desk.order(0, 1));
    }

    private static void sign() {
        Checks.sentence("Promise 7", "whether it is below 0, 0, above");
        Start.of("1/3", "-5", "0").leavesAll("1", desk -> desk.sign(0));
        Start.of("1/3", "-5", "0").leavesAll("-1", desk -> desk.sign(1));
        Start.of("1/3", "-5", "0").leavesAll("0", desk -> desk.sign(2));
    }

    private static void places() {
        Checks.sentence("Promise 8", "How many binary places the size of TOP (which 0) or BOTTOM (1) has");
        Start.of("-100/17").leavesAll("7", desk -> desk.places(0, 0));
        Start.of("-100/17").leavesAll("5", desk -> desk.places(0, 1));
        Start.of("1" + "0".repeat(100)).leavesAll("333", desk -> desk.places(0, 0));
    }

    private static void part() {
        Checks.sentence("Promise 9", "Part k of the size of TOP (which 0) or BOTTOM (1)");
        Start start = Start.of("-79228162514264337593543950335/18446744073709551617");
        start.leavesAll("4294967295", desk -> desk.part(0, 0, 2));
        start.leavesAll("1", desk -> desk.part(0, 1, 0));
        start.leavesAll("0", desk -> desk.part(0, 1, 1));
        start.leavesAll("1", desk -> desk.part(0, 1, 2));
    }

    private static void write() {
        Checks.sentence("Promise 10", "The text becomes the decimal digits of TOP");
        Start.of("3/2").makesText("3", "3/2", desk -> desk.write(0));
        Start.of("-60017/5").makesText("8", "-60017/5", desk -> desk.write(0));
        Start.of("-12").makesText("3", "-12", desk -> desk.write(0));
        String row = "123456789012345678901234567890/1000000000000000000007";
        Start.of(row).makesText("53", row, desk -> desk.write(0));
    }

    private static void type() {
        Checks.sentence("Promise 11", "Puts n characters behind the text");
        Start.of().typed("").makesText("4", "-7/2", desk -> desk.type(0x2D372F32L, 4));
        Start.of().typed("-7").makesText("4", "-7/2", desk -> desk.type("/2"));
    }

    private static void wipeAndCharacter() {
        Checks.sentence("Promise 12", "The text is empty: how many characters it had.");
        Start.of().typed("twelve chars").makesText("12", "", desk -> desk.wipe());
        Checks.sentence("Promise 13", "Character i of the text, from 0");
        Start.of().typed("abc").leavesAll("98", desk -> desk.character(1));
    }

    private static void read() {
        Checks.sentence("Promise 14", "A register becomes what the text tells");
        Start.of().typed("5").reads("5");
        Start.of().typed("-12/8").reads("-3/2");
        Start.of().typed("6/3").reads("2");
        Start.of().typed("123456789012345678901234567890").reads("123456789012345678901234567890");
    }

    private static void place() {
        Checks.sentence("Promise 15", "the first place at which it cannot go on");
        Start.of().typed("12,5").readsNone(2);
        Start.of().typed("one").readsNone(0);
        Start.of().typed("1/2/3").readsNone(3);
    }
}
