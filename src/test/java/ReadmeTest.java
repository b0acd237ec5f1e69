import java.io.IOException;
import java.nio.file.Files;
import java.nio.file.Path;
import java.util.ArrayList;
import java.util.List;
import java.util.regex.Matcher;
import java.util.regex.Pattern;

/** The calls of README.md's example, made as they stand there: what their comments say of them must hold. */
public final class ReadmeTest {
    private static final Pattern CALL = Pattern.compile("desk\\.(\\w+)\\(([^)]*)\\); +// (.*)");
    private static final Pattern ANSWERS = Pattern.compile("answers (-?\\d+)");
    private static final Pattern REGISTER_IS = Pattern.compile("register (\\d+) is (-?[\\d/]+)");
    private static final Pattern TEXT_IS = Pattern.compile("the text is (-?[\\d/]+|empty)");

    private final List<Start.Call> made = new ArrayList<>();
    private final Desk desk = new Desk();

    private ReadmeTest() {
    }

    public static void main(String[] args) throws IOException {
        ReadmeTest test = new ReadmeTest();
        for (String line : Files.readAllLines(Path.of("README.md"))) {
            if (line.startsWith("desk.")) {
                test.look(line);
            }
        }
        Checks.due("the example has calls", test.made.isEmpty() ? 0 : 1, 1);
        Checks.end("ReadmeTest");
    }

    private void look(String line) {
        Matcher parts = CALL.matcher(line);
        if (!parts.matches()) {
            Checks.same(line, "no call with a comment", "one");
            return;
        }
        Start.Call call = call(parts.group(1), numbers(parts.group(2)));
        made.add(call);
        String answer = call.on(desk);
        String says = parts.group(3);
        int claims = answers(line, says, answer) + registers(line, says) + text(line, says);
        Checks.due(line + ": claims", claims > 0 ? 1 : 0, 1);
    }

    private static int answers(String line, String says, String answer) {
        Matcher claim = ANSWERS.matcher(says);
        boolean told = claim.find();
        Checks.same(line, answer, told ? claim.group(1) : "0");
        return told ? 1 : 0;
    }

    private int registers(String line, String says) {
        Matcher claim = REGISTER_IS.matcher(says);
        if (!claim.find()) {
            return 0;
        }
        String fraction = claim.group(2);
        String due = fraction.contains("/") ? fraction : fraction + "/1";
        Checks.same(line, lookAgain().fraction(Integer.parseInt(claim.group(1))), due);
        return 1;
    }

    private int text(String line, String says) {
        Matcher claim = TEXT_IS.matcher(says);
        if (!claim.find()) {
            return 0;
        }
        String due = claim.group(1).equals("empty") ? "" : claim.group(1);
        Checks.same(line, lookAgain().text(), due);
        return 1;
    }

    private Look lookAgain() {
        return new Look(another -> made.forEach(call -> call.on(another)));
    }

    private static long[] numbers(String row) {
        String[] words = row.isEmpty() ? new String[0] : row.split(", ");
        long[] numbers = new long[words.length];
        for (int i = 0; i < words.length; i++) {
            numbers[i] = Long.decode(words[i].replace("L", ""));
        }
        return numbers;
    }

    private static Start.Call call(String name, long[] n) {
        return desk -> switch (name) {
            case "set" -> desk.set((int) n[0], n[1], n[2]);
            case "combine" -> desk.combine((int) n[0], (int) n[1], (int) n[2], (int) n[3]);
            case "change" -> desk.change((int) n[0], (int) n[1], (int) n[2]);
            case "power" -> desk.power((int) n[0], (int) n[1], (int) n[2]);
            case "order" -> desk.order((int) n[0], (int) n[1]);
            case "places" -> desk.places((int) n[0], (int) n[1]);
            case "write" -> desk.write((int) n[0]);
            case "type" -> desk.type(n[0], (int) n[1]);
            case "wipe" -> desk.wipe();
            case "character" -> desk.character((int) n[0]);
            case "read" -> desk.read((int) n[0]);
            default -> "no call that this test knows";
        };
    }
}
