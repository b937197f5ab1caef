import java.io.IOException;
import java.nio.file.Files;
import java.nio.file.Path;
import java.util.regex.Matcher;
import java.util.regex.Pattern;

/** The calls that README.md shows answer what it says behind them. */
public final class ReadmeTest {
    private static final Pattern MADE = Pattern.compile("RoomRing ring = new RoomRing\\(\\);");
    private static final Pattern TYPED = Pattern.compile("for \\(char c : \"(.*)\"\\.toCharArray\\(\\)\\) ring\\.type\\(c\\);");
    private static final Pattern CALL = Pattern.compile("ring\\.(\\w+)\\((\\d+)?(?:, (\\d+))?\\); +// (-?\\d+)\\b.*");

    private static int calls = 0;

    public static void main(String[] args) throws IOException {
        RoomRing ring = new RoomRing();
        boolean shown = false;
        for (String line : Files.readAllLines(Path.of("README.md"))) {
            if (line.startsWith("```")) {
                shown = line.equals("```java");
            } else if (shown && MADE.matcher(line).matches()) {
                ring = new RoomRing();
            } else if (shown) {
                tryLine(ring, line);
            }
        }
        Check.sentence("README.md says how to use the class");
        Check.due("calls are shown", calls > 0 ? 1 : 0, 1);
        Check.end();
    }

    private static void tryLine(RoomRing ring, String line) {
        Check.sentence("README.md: " + line);
        Matcher typed = TYPED.matcher(line);
        Matcher call = CALL.matcher(line);
        if (typed.matches()) {
            for (char c : typed.group(1).toCharArray()) {
                ring.type(c);
            }
        } else if (call.matches()) {
            calls++;
            long answer = answerOf(ring, call.group(1), numberOf(call.group(2)), numberOf(call.group(3)));
            Check.due(call.group(1) + "()", answer, Long.parseLong(call.group(4)));
        } else {
            Check.due("a line that shows no answer", 1, 0);
        }
    }

    private static int numberOf(String figures) {
        return figures == null ? 0 : Integer.parseInt(figures);
    }

    private static long answerOf(RoomRing ring, String call, int first, int second) {
        return switch (call) {
            case "host" -> ring.host(first, second);
            case "key" -> ring.key(first);
            case "about" -> ring.about(first, second);
            case "would" -> ring.would(first);
            case "without" -> ring.without(first);
            case "goes" -> ring.goes(first);
            case "has" -> ring.has(first);
            case "back" -> ring.back();
            case "told" -> ring.told(first);
            case "count" -> ring.count(first);
            case "clear" -> ring.clear();
            case "does" -> ring.does();
            default -> Long.MIN_VALUE;
        };
    }
}
