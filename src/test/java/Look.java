import java.math.BigInteger;

/**
 * Looks at all that can be seen of a desk after some calls. One desk has not calls enough for that, so the same calls
 * are made again on a new one whenever the last has none left.
 */
final class Look {
    /** Calls that answer the same on every new desk. */
    interface Calls {
        void on(Desk desk);
    }

    private static final int WORD_BITS = 32;
    private static final int MOST_PLACES = 2048;
    private static final int MOST_CHARACTERS = 1400;

    private final Calls before;
    private Desk desk;

    Look(Calls before) {
        this.before = before;
        desk = newDesk();
    }

    private Desk newDesk() {
        Desk made = new Desk();
        before.on(made);
        return made;
    }

    private Desk deskFor(int calls) {
        if (desk.left() < calls) {
            desk = newDesk();
        }
        return desk;
    }

    /** "top/bottom", put together from sign, places and part; what these answer, if that is no number. */
    String fraction(int a) {
        String sign = deskFor(1).sign(a);
        String top = sign.equals("0") ? "0" : whole(a, 0);
        return signs(sign) + top + "/" + whole(a, 1);
    }

    private static String signs(String sign) {
        return switch (sign) {
            case "0", "1" -> "";
            case "-1" -> "-";
            default -> "sign " + sign + " ";
        };
    }

    private String whole(int a, int which) {
        String places = deskFor(1).places(a, which);
        if (!isNumber(places)) {
            return places;
        }
        int parts = Math.min(Integer.parseInt(places), MOST_PLACES) / WORD_BITS + 1;
        Desk shown = deskFor(parts);
        BigInteger sum = BigInteger.ZERO;
        for (int k = parts - 1; k >= 0; k--) {
            String part = shown.part(a, which, k);
            if (!isNumber(part)) {
                return part;
            }
            sum = sum.shiftLeft(WORD_BITS).add(new BigInteger(part));
        }
        return sum.toString();
    }

    private static boolean isNumber(String answer) {
        return answer.matches("[0-9]{1,10}");
    }

    String text() {
        StringBuilder row = new StringBuilder();
        for (int i = 0; i <= MOST_CHARACTERS; i++) {
            String character = deskFor(1).character(i);
            if (!isNumber(character)) {
                break;
            }
            row.append((char) Integer.parseInt(character));
        }
        return row.toString();
    }

    String place() {
        return deskFor(1).place();
    }
}
