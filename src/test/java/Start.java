/**
 * A desk on which every register has a fraction of its own, the text stands and a place is told: so that a call that
 * changes more than it should is seen. Each check makes one call on it and looks at all that the call leaves.
 */
final class Start {
    static final int REGISTERS = 16;

    private static final String WRONG_TEXT = "12x";
    private static final int PLACE = 2;
    private static final String TEXT = "kept 7/8";
    private static final int OTHER_BOTTOM = 17;

    /** One call on a desk, and its answer. */
    interface Call {
        String on(Desk desk);
    }

    private final String[] given;
    private final String text;

    private Start(String[] given, String text) {
        this.given = given;
        this.text = text;
    }

    /** The registers from 0 on have these fractions, told without common divisors. */
    static Start of(String... fractions) {
        return new Start(fractions, TEXT);
    }

    Start typed(String newText) {
        return new Start(given, newText);
    }

    private void makeOn(Desk desk) {
        desk.typeAll(WRONG_TEXT);
        desk.read(0);
        desk.wipe();
        for (int i = 0; i < REGISTERS; i++) {
            if (i < given.length) {
                desk.put(i, given[i]);
            } else {
                desk.set(i, -(i + 1), OTHER_BOTTOM);
            }
        }
        desk.typeAll(text);
    }

    private String[] fractions() {
        String[] all = new String[REGISTERS];
        for (int i = 0; i < REGISTERS; i++) {
            all[i] = i < given.length ? given[i] : -(i + 1) + "/" + OTHER_BOTTOM;
        }
        return all;
    }

    private String[] fractionsBut(int register, String fraction) {
        String[] all = fractions();
        all[register] = fraction;
        return all;
    }

    /** The call answers so, and leaves all as it was. */
    void leavesAll(String answer, Call call) {
        expect(call, answer, fractions(), text, PLACE);
    }

    /** The call answers 0, the register becomes the fraction, and all else is as it was. */
    void makes(int register, String fraction, Call call) {
        expect(call, "0", fractionsBut(register, fraction), text, PLACE);
    }

    /** The call answers so, the text becomes the new one, and all else is as it was. */
    void makesText(String answer, String newText, Call call) {
        expect(call, answer, fractions(), newText, PLACE);
    }

    /** The text tells the fraction, and is empty then. */
    void reads(String fraction) {
        int register = REGISTERS - 1;
        expect(desk -> desk.read(register), "0", fractionsBut(register, fraction), "", PLACE);
    }

    /** The text tells none, and goes wrong at that place. */
    void readsNone(int place) {
        expect(desk -> desk.read(0), Desk.TELLS_NONE, fractions(), text, place);
    }

    private void expect(Call call, String answer, String[] fractions, String newText, int place) {
        Desk desk = new Desk();
        makeOn(desk);
        String got = call.on(desk);
        String name = desk.latest() + (given.length == 0 ? "" : " of " + String.join(" and ", given));
        Checks.same(name, got, answer);
        Look look = new Look(another -> {
            makeOn(another);
            call.on(another);
        });
        for (int a = 0; a < REGISTERS; a++) {
            Checks.same(name + ", register " + a + " then", look.fraction(a), withBottom(fractions[a]));
        }
        Checks.same(name + ", the text then", look.text(), newText);
        Checks.same(name + ", the place then", look.place(), Integer.toString(place));
    }

    private static String withBottom(String fraction) {
        return fraction.contains("/") ? fraction : fraction + "/1";
    }
}
