import java.io.IOException;
import java.nio.file.Files;
import java.nio.file.Path;
import java.util.ArrayList;
import java.util.Arrays;
import java.util.List;
import java.util.regex.Matcher;
import java.util.regex.Pattern;

/** Each sentence that a test names stands in the document, and each word of its terms and promises is in one of them. */
final class DocTest {
    private static final Check C = new Check("DocTest");
    private static final Path DOC = Path.of("../shared/DOC.md");
    private static final Path TESTS = Path.of("src/test/java");
    private static final Pattern WORDS = Pattern.compile("\"((?:[^\"\\\\]|\\\\.)*)\"");
    private static final Pattern NAMED = Pattern.compile("C\\.promise\\((\\d+), ((?:\\s*\\+?\\s*\"(?:[^\"\\\\]|\\\\.)*\")+)\\)");
    private static final Pattern HEAD = Pattern.compile("## Promise (\\d+): [^`]*`[^`]*`: ");

    private static String doc;
    private static boolean[] named;
    /** Where the body of each promise begins and ends; at 0: the terms. */
    private static final List<int[]> BODIES = new ArrayList<>();

    public static void main(String[] args) throws IOException {
        readDoc();
        try (var files = Files.list(TESTS)) {
            for (Path file : files.sorted().toList()) {
                lookUp(Files.readString(file), file.getFileName().toString());
            }
        }
        unnamed();
        C.end();
    }

    private static void readDoc() throws IOException {
        String whole = Files.readString(DOC).replace("```text", "").replace("```", "").replaceAll("==== \\d\\. |The constants:", "");
        String told = whole.replaceAll("\\s+", " ");
        int from = told.indexOf("## Terms") + "## Terms".length();
        doc = told.substring(from, told.indexOf("## Not promised"));
        named = new boolean[doc.length()];
        Matcher head = HEAD.matcher(doc);
        int begin = 0;
        while (head.find()) {
            BODIES.add(new int[] {begin, head.start()});
            begin = head.end();
        }
        BODIES.add(new int[] {begin, doc.length()});
        C.due("promises", BODIES.size() - 1, 45);
    }

    private static void lookUp(String source, String file) {
        Matcher call = NAMED.matcher(source);
        int found = 0;
        while (call.find()) {
            found++;
            StringBuilder sentence = new StringBuilder();
            Matcher words = WORDS.matcher(call.group(2));
            while (words.find()) {
                sentence.append(words.group(1));
            }
            int number = Integer.parseInt(call.group(1));
            boolean stands = stands(sentence.toString(), number) | stands(sentence.toString(), 0);
            C.due(file + ": Promise " + number + ": " + sentence + " stands in the document", stands, true);
        }
        int asked = source.split("C\\.promise\\(", -1).length - 1;
        C.due(file + ": sentences that can be looked up", found, file.equals("DocTest.java") ? 0 : asked);
    }

    private static boolean stands(String sentence, int promise) {
        int[] body = BODIES.get(promise);
        int at = doc.indexOf(sentence, body[0]);
        if (at < 0 || at + sentence.length() > body[1]) {
            return false;
        }
        Arrays.fill(named, at, at + sentence.length(), true);
        return true;
    }

    private static void unnamed() {
        for (int[] body : BODIES) {
            StringBuilder rest = new StringBuilder();
            for (int i = body[0]; i < body[1]; i++) {
                rest.append(named[i] ? '#' : doc.charAt(i));
            }
            for (String words : rest.toString().split("#+")) {
                C.due("no test names: " + words.trim(), words.matches("[\\s;:,.()]*"), true);
            }
        }
    }
}
