import java.math.BigInteger;

/** What the tests share: counting wrong answers, telling which exception came, looking at a register from outside. */
final class Checks {
    /** A call of the desk as the tests hand it over. */
    interface Call {
        long answer();
    }

    private static int made = 0;
    private static int wrong = 0;

    private Checks() {
    }

    static void due(String call, long got, long want) {
        same(call, Long.toString(got), Long.toString(want));
    }

    static void same(String call, String got, String want) {
        made++;
        if (!got.equals(want)) {
            wrong++;
            if (wrong <= 40) {
                System.out.println(brief(call) + " answered " + brief(got) + ", due is " + brief(want));
            }
        }
    }

    private static String brief(String row) {
        int n = row.length();
        return n <= 120 ? row : row.substring(0, 50) + ".." + n + ".." + row.substring(n - 50);
    }

    /** The answer as a text; the name of the exception, if one came, so that no exception is taken for another. */
    static String told(Call call) {
        try {
            return Long.toString(call.answer());
        } catch (RuntimeException e) {
            return "throws." + e.getClass().getSimpleName();
        }
    }

    static void refused(String call, Call made) {
        same(call, told(made), "throws.IllegalArgumentException");
    }

    static void end(String test) {
        System.out.println(test + ": " + made + " answers looked at, " + wrong + " wrong");
        if (wrong != 0) {
            System.exit(1);
        }
    }

    /** Register a as "top/bottom", put together from sign() and part() alone. */
    static String fraction(FractionDesk desk, int a) {
        BigInteger top = whole(desk, a, 0);
        return (desk.sign(a) < 0 ? top.negate() : top) + "/" + whole(desk, a, 1);
    }

    private static BigInteger whole(FractionDesk desk, int a, int which) {
        BigInteger sum = BigInteger.ZERO;
        for (int k = 65; k >= 0; k--) {
            sum = sum.shiftLeft(32).add(BigInteger.valueOf(desk.part(a, which, k)));
        }
        return sum;
    }

    static String text(FractionDesk desk) {
        StringBuilder row = new StringBuilder();
        for (int i = 0; desk.character(i) != FractionDesk.NONE; i++) {
            row.append((char) desk.character(i));
        }
        return row.toString();
    }

    /** Types a text of any length, eight characters a call. */
    static void typeAll(FractionDesk desk, String row) {
        for (int i = 0; i < row.length(); i += 8) {
            String some = row.substring(i, Math.min(row.length(), i + 8));
            desk.type(packed(some), some.length());
        }
    }

    static long packed(String some) {
        long characters = 0;
        for (int i = 0; i < some.length(); i++) {
            characters = characters << 8 | some.charAt(i);
        }
        return characters;
    }

    /** A desk register by way of a text, for fractions that no long tells. */
    static void put(FractionDesk desk, int to, String row) {
        desk.wipe();
        typeAll(desk, row);
        same("read of " + row, told(() -> desk.read(to)), "0");
    }
}
