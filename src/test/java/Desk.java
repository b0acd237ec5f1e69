import java.util.Arrays;

/**
 * A FractionDesk as the tests use it. Answers are told as texts, exceptions by their names, so that none is taken for
 * another. No desk gets more calls than the document promises answers for.
 */
final class Desk {
    static final String REFUSED = "throws.IllegalArgumentException";
    static final String TELLS_NONE = "throws.IllegalStateException";
    static final String BIG = "-1";
    static final String ZERO = "-2";
    static final String NONE = "-1";
    static final int MOST_CALLS = 512;

    private static final int MOST_TYPED = 8;

    private interface Face {
        long answer();
    }

    private final FractionDesk desk = new FractionDesk();
    private int calls = 0;
    private String name = "";
    private long[] arguments = {};

    int left() {
        return MOST_CALLS - calls;
    }

    /** The latest call, as it would be written. */
    String latest() {
        String row = Arrays.toString(arguments);
        return name + "(" + row.substring(1, row.length() - 1) + ")";
    }

    private String told(Face face, String newName, long... newArguments) {
        if (calls >= MOST_CALLS) {
            throw new AssertionError("the test makes more than " + MOST_CALLS + " calls on one desk");
        }
        calls++;
        name = newName;
        arguments = newArguments;
        try {
            return Long.toString(face.answer());
        } catch (RuntimeException e) {
            return "throws." + e.getClass().getSimpleName();
        }
    }

    String set(int to, long top, long bottom) {
        return told(() -> {
            desk.set(to, top, bottom);
            return 0;
        }, "set", to, top, bottom);
    }

    String combine(int to, int kind, int a, int b) {
        return told(() -> desk.combine(to, kind, a, b), "combine", to, kind, a, b);
    }

    String change(int to, int kind, int a) {
        return told(() -> desk.change(to, kind, a), "change", to, kind, a);
    }

    String power(int to, int a, int n) {
        return told(() -> desk.power(to, a, n), "power", to, a, n);
    }

    String order(int a, int b) {
        return told(() -> desk.order(a, b), "order", a, b);
    }

    String sign(int a) {
        return told(() -> desk.sign(a), "sign", a);
    }

    String places(int a, int which) {
        return told(() -> desk.places(a, which), "places", a, which);
    }

    String part(int a, int which, int k) {
        return told(() -> desk.part(a, which, k), "part", a, which, k);
    }

    String write(int a) {
        return told(() -> desk.write(a), "write", a);
    }

    String type(long characters, int n) {
        return told(() -> desk.type(characters, n), "type", characters, n);
    }

    String wipe() {
        return told(() -> desk.wipe(), "wipe");
    }

    String character(int i) {
        return told(() -> desk.character(i), "character", i);
    }

    String read(int to) {
        return told(() -> desk.read(to), "read", to);
    }

    String place() {
        return told(() -> desk.place(), "place");
    }

    /** At most eight characters. */
    String type(String some) {
        return type(packed(some), some.length());
    }

    /** A text of any length, eight characters a call. The text must be empty before. */
    void typeAll(String row) {
        String length = "0";
        for (int i = 0; i < row.length(); i += MOST_TYPED) {
            length = type(row.substring(i, Math.min(row.length(), i + MOST_TYPED)));
        }
        Checks.same("the length of " + row, length, Integer.toString(row.length()));
    }

    /** By way of the text, as no long tells most fractions. The text must be empty before, and is so then. */
    void put(int to, String fraction) {
        typeAll(fraction);
        Checks.same("read of " + fraction, read(to), "0");
    }

    static long packed(String some) {
        long characters = 0;
        for (int i = 0; i < some.length(); i++) {
            characters = characters << 8 | some.charAt(i);
        }
        return characters;
    }
}
