/** The boundary cases that the document names for the text: Terms, and the promises 10 to 15. */
public final class TextBoundariesTest {
    private static final int MOST_CHARACTERS = 1400;
    private static final int[] NO_CHARACTERS = {0, 31, 127, 128, 160, 255};

    private TextBoundariesTest() {
    }

    public static void main(String[] args) {
        theText();
        writeTop();
        writeBottom();
        writeLength();
        writeNoRegister();
        typeLowestBytes();
        typeNoSuchN();
        typeNoCharacter();
        typeTooMany();
        wipe();
        character();
        characterNone();
        readFractions();
        readEmpties();
        readBig();
        readNoRegister();
        readTellsNone();
        placeCannotGoOn();
        placeEndTooEarly();
        placeAllZeros();
        placeOfLatest();
        placeBeforeAny();
        Checks.end("TextBoundariesTest");
    }

    private static String some(int characters) {
        return "0123456789abcdef".repeat(MOST_CHARACTERS / 16 + 1).substring(0, characters);
    }

    // Terms

    private static void theText() {
        Checks.sentence("Terms", "THE TEXT has at most 1400 characters (32 .. 126).");
        Start.of().typed(some(1399)).makesText("1400", some(1399) + "~", desk -> desk.type("~"));
        Start.of().typed(some(1400)).leavesAll(Desk.NONE, desk -> desk.type("~"));
        Start.of().typed(some(1400)).leavesAll(Integer.toString(some(1400).charAt(1399)), desk -> desk.character(1399));
        StringBuilder all = new StringBuilder();
        for (char each = 32; each <= 126; each++) {
            all.append(each);
        }
        Start.of().typed(all.toString()).makesText("96", all + " ", desk -> desk.type(" "));
    }

    // Promise 10

    private static void expectWrite(String fraction, String want) {
        Start.of(fraction).makesText(Integer.toString(want.length()), want, desk -> desk.write(0));
    }

    private static void writeTop() {
        Checks.sentence("Promise 10", "The text becomes the decimal digits of TOP ('-' in front below 0)");
        expectWrite("0", "0");
        expectWrite("9", "9");
        expectWrite("10", "10");
        expectWrite("-1", "-1");
        // digits are made by nines
        expectWrite("999999999", "999999999");
        expectWrite("-1000000000", "-1000000000");
        expectWrite("1000000001", "1000000001");
        expectWrite("1000000000000000000", "1000000000000000000");
        expectWrite(Edges.MOST, Edges.MOST);
        expectWrite("-" + Edges.MOST, "-" + Edges.MOST);
        String ten = "1" + "0".repeat(616);
        expectWrite("-" + ten, "-" + ten);
        Edges.expectOfZeros("1", desk -> desk.write(0));
        Edges.expectOfZeros(Integer.toString('0'), desk -> {
            desk.write(0);
            return desk.character(0);
        });
    }

    private static void writeBottom() {
        Checks.sentence("Promise 10", "and, if BOTTOM is not 1, '/' and those of BOTTOM");
        expectWrite("-7", "-7");
        expectWrite("1/2", "1/2");
        expectWrite("-1/1000000000", "-1/1000000000");
        expectWrite("1/" + Edges.MOST, "1/" + Edges.MOST);
        expectWrite("-" + Edges.MOST + "/" + Edges.LESS, "-" + Edges.MOST + "/" + Edges.LESS);
    }

    private static void writeLength() {
        Checks.sentence("Promise 10", "how many characters it has");
        Start.of("0").makesText("1", "0", desk -> desk.write(0));
        // what stood there before is gone, be it nothing or a full text
        Start.of("-1/2").typed("").makesText("4", "-1/2", desk -> desk.write(0));
        Start.of("-1/2").typed(some(MOST_CHARACTERS)).makesText("4", "-1/2", desk -> desk.write(0));
        String longest = "-" + Edges.MOST + "/" + Edges.LESS;
        Start.of(longest).makesText("1236", longest, desk -> desk.write(0));
    }

    private static void writeNoRegister() {
        Checks.sentence("Promise 10", "IllegalArgumentException when there is no such register.");
        for (int wrong : Edges.NO_REGISTERS) {
            Start.of().leavesAll(Desk.REFUSED, desk -> desk.write(wrong));
            Start.of().typed("").leavesAll(Desk.REFUSED, desk -> desk.write(wrong));
        }
    }

    // Promise 11

    private static void typeLowestBytes() {
        Checks.sentence("Promise 11",
            "Puts n characters behind the text, the lowest n bytes of a number, the highest of them first");
        Start start = Start.of().typed("ab");
        start.makesText("3", "ab~", desk -> desk.type("~"));
        start.makesText("10", "ab~1234567", desk -> desk.type("~1234567"));
        start.makesText("10", "ab       !", desk -> desk.type("       !"));
        // the bytes above are not looked at
        start.makesText("3", "abx", desk -> desk.type(-1L << 8 | 'x', 1));
        start.makesText("9", "ab1234567", desk -> desk.type(Desk.packed("1234567"), 7));
        start.makesText("9", "ab1234567", desk -> desk.type(-1L << 56 | Desk.packed("1234567"), 7));
        start.makesText("5", "ab567", desk -> desk.type(Desk.packed("1234567"), 3));
        Start.of().typed("").makesText("1", " ", desk -> desk.type(" "));
    }

    private static void typeNoSuchN() {
        Checks.sentence("Promise 11", "NONE, and nothing is put, when n is not 1 .. 8");
        for (int n : new int[] {0, -1, 9, 16, 64, 257, Integer.MIN_VALUE, Integer.MAX_VALUE - 1, Integer.MAX_VALUE}) {
            Start.of().leavesAll(Desk.NONE, desk -> desk.type(Desk.packed("12345678"), n));
            Start.of().typed("").leavesAll(Desk.NONE, desk -> desk.type(Desk.packed("12345678"), n));
        }
    }

    private static void typeNoCharacter() {
        Checks.sentence("Promise 11", "one is not 32 .. 126");
        for (long wrong : NO_CHARACTERS) {
            Start.of().leavesAll(Desk.NONE, desk -> desk.type(wrong, 1));
            for (int n = 2; n <= 8; n++) {
                int typed = n;
                long fine = Desk.packed("12345678");
                for (int at = 0; at < n; at++) {
                    long one = fine & ~(255L << 8 * at) | wrong << 8 * at;
                    Start.of().leavesAll(Desk.NONE, desk -> desk.type(one, typed));
                }
            }
        }
        for (long fine : new long[] {32, 33, 125, 126}) {
            Start.of().typed("ab").makesText("3", "ab" + (char) fine, desk -> desk.type(fine, 1));
        }
    }

    private static void typeTooMany() {
        Checks.sentence("Promise 11", "or there would be more than 1400");
        for (int n = 1; n <= 8; n++) {
            String typed = "12345678".substring(0, n);
            int room = MOST_CHARACTERS - n;
            Start.of().typed(some(room)).makesText("1400", some(room) + typed, desk -> desk.type(typed));
            Start.of().typed(some(room + 1)).leavesAll(Desk.NONE, desk -> desk.type(typed));
            Start.of().typed(some(MOST_CHARACTERS)).leavesAll(Desk.NONE, desk -> desk.type(typed));
        }
    }

    // Promises 12 and 13

    private static void wipe() {
        Checks.sentence("Promise 12", "The text is empty: how many characters it had.");
        Start.of().typed("").makesText("0", "", desk -> desk.wipe());
        Start.of().typed("x").makesText("1", "", desk -> desk.wipe());
        Start.of().typed(some(MOST_CHARACTERS)).makesText("1400", "", desk -> desk.wipe());
        Desk desk = new Desk();
        desk.typeAll(some(MOST_CHARACTERS));
        desk.wipe();
        Checks.same("wipe() again", desk.wipe(), "0");
        Checks.same("type behind wipe()", desk.type("y"), "1");
        Checks.same("character(0)", desk.character(0), Integer.toString('y'));
        Checks.same("character(1)", desk.character(1), Desk.NONE);
    }

    private static void character() {
        Checks.sentence("Promise 13", "Character i of the text, from 0");
        Start.of().typed("a~").leavesAll("97", desk -> desk.character(0));
        Start.of().typed("a~").leavesAll("126", desk -> desk.character(1));
        Start.of().typed(" ").leavesAll("32", desk -> desk.character(0));
        Start.of().typed(some(MOST_CHARACTERS)).leavesAll("55", desk -> desk.character(1399));
    }

    private static void characterNone() {
        Checks.sentence("Promise 13", "NONE when there is none");
        for (int i : new int[] {-1, 2, 3, 1399, 1400, 1401, Integer.MIN_VALUE, Integer.MAX_VALUE}) {
            Start.of().typed("a~").leavesAll(Desk.NONE, desk -> desk.character(i));
            Start.of().typed("").leavesAll(Desk.NONE, desk -> desk.character(i));
        }
        Start.of().typed("").leavesAll(Desk.NONE, desk -> desk.character(0));
        Start.of().typed(some(MOST_CHARACTERS)).leavesAll(Desk.NONE, desk -> desk.character(1400));
        // what a longer text left behind is gone
        Desk desk = new Desk();
        desk.typeAll(some(MOST_CHARACTERS));
        desk.write(0);
        Checks.same("character(1) behind a short text", desk.character(1), Desk.NONE);
    }

    // Promise 14

    private static void readFractions() {
        Checks.sentence("Promise 14", "a '-' or none, decimal digits, and perhaps '/' and digits that are not all 0");
        Start.of().typed("0").reads("0");
        Start.of().typed("-0").reads("0");
        Start.of().typed("0/1").reads("0");
        Start.of().typed("-00/9").reads("0");
        Start.of().typed("9/10").reads("9/10");
        Start.of().typed("7/01").reads("7");
        Start.of().typed("7/10").reads("7/10");
        Start.of().typed("-0012/0008").reads("-3/2");
        Start.of().typed("999999999/1000000000").reads("999999999/1000000000");
        Start.of().typed("1000000000000000001").reads("1000000000000000001");
        Start.of().typed(Edges.MOST + "/" + Edges.MOST).reads("1");
        // zeros in front count for nothing, in a full text too
        Start.of().typed("0".repeat(1399) + "5").reads("5");
        Start.of().typed("0".repeat(1400)).reads("0");
        Start.of().typed("-" + "0".repeat(698) + "6/" + "0".repeat(698) + "4").reads("-3/2");
        Start.of().typed("0".repeat(783) + Edges.MOST).reads(Edges.MOST);
        Start.of().typed("-1/" + "0".repeat(780) + Edges.MOST).reads("-1/" + Edges.MOST);
    }

    private static void readEmpties() {
        Checks.sentence("Promise 14", "the text is empty then: 0");
        Start.of().typed("1").reads("1");
        Start.of().typed("0".repeat(1400)).reads("0");
        Desk desk = new Desk();
        desk.put(0, "1/2");
        Checks.same("wipe() behind read(0)", desk.wipe(), "0");
        Checks.same("read(0) again", desk.read(0), Desk.TELLS_NONE);
    }

    private static void readBig() {
        Checks.sentence("Promise 14",
            "what stands there is not small enough, before or behind common divisors are taken away (the text stays)");
        String great = Edges.TOO_GREAT.toString();
        expectBig(great);
        expectBig("-" + great);
        expectBig("1/" + great);
        expectBig("0/" + great);
        expectBig("-" + Edges.MOST + "/" + great);
        expectBig(great + "/" + Edges.MOST);
        // small enough behind common divisors, but not before
        expectBig(great + "/2");
        expectBig("2/" + great);
        expectBig(great + "/" + great);
        expectBig(great + "0/10");
        expectBig("0".repeat(783) + great);
        expectBig("9".repeat(1400));
        expectBig("-" + "9".repeat(1399));
        expectBig("1/" + "9".repeat(1398));
        expectBig("1" + "0".repeat(1399));
        Start.of().typed(Edges.MOST).reads(Edges.MOST);
        Start.of().typed("1/" + Edges.MOST).reads("1/" + Edges.MOST);
        Start.of().typed(Edges.LESS + "/2").reads(Edges.plus(Edges.HALF, -1));
    }

    private static void expectBig(String row) {
        Start.of().typed(row).leavesAll(Desk.BIG, desk -> desk.read(0));
    }

    private static void readNoRegister() {
        Checks.sentence("Promise 14", "IllegalArgumentException when there is no such register");
        for (int wrong : Edges.NO_REGISTERS) {
            Start.of().typed("1/2").leavesAll(Desk.REFUSED, desk -> desk.read(wrong));
            // before the text is looked at: the place stays too
            Start.of().typed("1/x").leavesAll(Desk.REFUSED, desk -> desk.read(wrong));
            Start.of().typed("").leavesAll(Desk.REFUSED, desk -> desk.read(wrong));
            Start.of().typed(Edges.TOO_GREAT.toString()).leavesAll(Desk.REFUSED, desk -> desk.read(wrong));
        }
    }

    private static void readTellsNone() {
        Checks.sentence("Promise 14", "IllegalStateException when the text tells none");
        Start.of().typed("").readsNone(0);
        Start.of().typed(" ").readsNone(0);
        Start.of().typed("+1").readsNone(0);
        Start.of().typed("1/-2").readsNone(2);
        Start.of().typed("1/0").readsNone(3);
        // not BIG, as it tells no fraction
        Start.of().typed("9".repeat(1399) + "x").readsNone(1399);
        Start.of().typed(Edges.TOO_GREAT + "/0").readsNone(619);
        Start.of().typed("1/" + Edges.TOO_GREAT + "/").readsNone(619);
    }

    // Promise 15

    private static void placeCannotGoOn() {
        Checks.sentence("Promise 15", "the first place at which it cannot go on");
        Start.of().typed("/2").readsNone(0);
        Start.of().typed("x").readsNone(0);
        Start.of().typed("--1").readsNone(1);
        Start.of().typed("-/2").readsNone(1);
        Start.of().typed("- 1").readsNone(1);
        // the neighbours of the digits
        Start.of().typed("1:").readsNone(1);
        Start.of().typed("12.5").readsNone(2);
        Start.of().typed("12-").readsNone(2);
        Start.of().typed("12 ").readsNone(2);
        Start.of().typed("-12 /5").readsNone(3);
        Start.of().typed("12//3").readsNone(3);
        Start.of().typed("12/+3").readsNone(3);
        Start.of().typed("12/3/4").readsNone(4);
        Start.of().typed("12/3x").readsNone(4);
        Start.of().typed("1" + some(1399)).readsNone(11);
    }

    private static void placeEndTooEarly() {
        Checks.sentence("Promise 15", "its length, if its end is too early");
        Start.of().typed("").readsNone(0);
        Start.of().typed("-").readsNone(1);
        Start.of().typed("0/").readsNone(2);
        Start.of().typed("-12/").readsNone(4);
        Start.of().typed("7".repeat(1399) + "/").readsNone(1400);
    }

    private static void placeAllZeros() {
        Checks.sentence("Promise 15", "behind '/' digits that are all 0: where they end");
        Start.of().typed("0/0").readsNone(3);
        Start.of().typed("12/0").readsNone(4);
        Start.of().typed("-12/000").readsNone(7);
        Start.of().typed("12/00x").readsNone(5);
        Start.of().typed("12/0/1").readsNone(4);
        Start.of().typed("12/0 1").readsNone(4);
        Start.of().typed("9".repeat(700) + "/" + "0".repeat(699)).readsNone(1400);
    }

    private static void placeOfLatest() {
        Checks.sentence("Promise 15",
            "Where the text was that the latest read() threw IllegalStateException for went wrong");
        Desk desk = new Desk();
        desk.typeAll("12345x");
        desk.read(0);
        expectPlace(desk, "5");
        desk.wipe();
        expectPlace(desk, "5");
        desk.put(0, "1/2");
        expectPlace(desk, "5");
        desk.typeAll(Edges.TOO_GREAT.toString());
        desk.read(0);
        expectPlace(desk, "5");
        desk.read(16);
        expectPlace(desk, "5");
        desk.write(0);
        expectPlace(desk, "5");
        desk.type(" ");
        expectPlace(desk, "5");
        desk.read(0);
        expectPlace(desk, "3");
        desk.wipe();
        desk.read(0);
        expectPlace(desk, "0");
    }

    private static void expectPlace(Desk desk, String want) {
        String name = desk.latest();
        Checks.same("place() after " + name, desk.place(), want);
    }

    private static void placeBeforeAny() {
        Checks.sentence("Promise 15", "NONE before any");
        Desk desk = new Desk();
        expectPlace(desk, Desk.NONE);
        desk.put(0, "1/2");
        expectPlace(desk, Desk.NONE);
        desk.typeAll(Edges.TOO_GREAT.toString());
        desk.read(0);
        expectPlace(desk, Desk.NONE);
        desk.read(-1);
        expectPlace(desk, Desk.NONE);
        desk.wipe();
        expectPlace(desk, Desk.NONE);
        desk.read(0);
        expectPlace(desk, "0");
    }
}
