/** What the tests share: counting wrong answers, and saying which sentence of the document each belongs to. */
final class Checks {
    /** So many of one sentence: one fault should not hide which other sentences are broken. */
    private static final int MOST_SHOWN = 5;

    private static String heading = "";
    private static int shown = 0;
    private static int sentences = 0;
    private static int made = 0;
    private static int wrong = 0;

    private Checks() {
    }

    /** What is looked at from here on belongs to this sentence; the words are the document's own. */
    static void sentence(String section, String words) {
        heading = section + ", \"" + words + "\": ";
        shown = 0;
        sentences++;
    }

    static void due(String call, long got, long want) {
        same(call, Long.toString(got), Long.toString(want));
    }

    static void same(String call, String got, String want) {
        made++;
        if (!got.equals(want)) {
            wrong++;
            if (shown < MOST_SHOWN) {
                shown++;
                System.out.println(heading + brief(call) + " answered " + brief(got) + ", due is " + brief(want));
            }
        }
    }

    private static String brief(String row) {
        int n = row.length();
        return n <= 120 ? row : row.substring(0, 50) + ".." + n + ".." + row.substring(n - 50);
    }

    static void end(String test) {
        System.out.println(test + ": " + sentences + " sentences, " + made + " answers looked at, " + wrong + " wrong");
        if (wrong != 0) {
            System.exit(1);
        }
    }
}
