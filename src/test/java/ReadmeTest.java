import java.io.IOException;
import java.nio.file.Files;
import java.nio.file.Path;
import java.util.List;
import java.util.regex.Matcher;
import java.util.regex.Pattern;

/** The run of calls that README.md shows answers as it says there, and its texts have no FAULT. */
final class ReadmeTest {
    private static final Check C = new Check("ReadmeTest");
    private static final Path README = Path.of("README.md");
    private static final Pattern PUT = Pattern.compile("put\\(x, \"(.*)\"\\);");
    private static final Pattern CALL = Pattern.compile("x\\.(\\w+\\(.*?\\)); +// (-?\\d+|true|false|throws).*");
    private static final Pattern ROW = Pattern.compile("\\| (\\d) \\| `(.*?)` \\|.*");

    public static void main(String[] args) throws IOException {
        List<String> lines = Files.readAllLines(README);
        example(lines);
        texts(lines);
        C.end();
    }

    private static void example(List<String> lines) {
        int from = lines.indexOf("SnowBooks x = new SnowBooks();");
        C.due("README.md has an example", from >= 0, true);
        Run run = Run.of();
        int to = from + 1 + lines.subList(from + 1, lines.size()).indexOf("```");
        for (String line : lines.subList(from + 1, to)) {
            Matcher put = PUT.matcher(line);
            Matcher call = CALL.matcher(line);
            if (put.matches()) {
                run.then("tape " + put.group(1));
            } else if (call.matches()) {
                C.due(run, call.group(1), answer(call.group(2)));
            } else {
                C.due("a line that can be asked: " + line, false, true);
            }
        }
    }

    private static long answer(String told) {
        return switch (told) {
            case "true" -> 1;
            case "false" -> 0;
            case "throws" -> Run.THROWS;
            default -> Long.parseLong(told);
        };
    }

    private static void texts(List<String> lines) {
        int rows = 0;
        for (String line : lines) {
            Matcher row = ROW.matcher(line);
            if (row.matches()) {
                C.whole(Integer.parseInt(row.group(1)), row.group(2));
                rows++;
            }
        }
        C.due("sorts of texts shown", rows, 3);
    }
}
