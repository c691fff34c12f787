import java.util.ArrayList;
import java.util.List;

/** Compares answers with those that are due, sentence by sentence of the document. */
final class Check {
    private final String title;
    private final List<String> unasked = new ArrayList<>();
    private String sentence = "";
    private int sentences;
    private int sinceSentence = 1;
    private int wrong;
    private int asked;

    Check(String title) {
        this.title = title;
    }

    /**
     * The checks from here to the next sentence fail if this one is broken. It stands in the document word by word:
     * in that promise, or in the terms that the promise is told in (DocTest looks it up).
     */
    void promise(int number, String words) {
        endSentence();
        sentence = "Promise " + number + ": " + words;
        sentences++;
        sinceSentence = 0;
    }

    private void endSentence() {
        if (sinceSentence == 0) {
            unasked.add(sentence);
        }
    }

    void due(String call, long got, long want) {
        asked++;
        sinceSentence++;
        if (got != want) {
            wrong++;
            System.out.println(title + ", " + sentence + "\n    " + call + " answered " + got + ", due is " + want);
        }
    }

    void due(String call, boolean got, boolean want) {
        due(call, got ? 1 : 0, want ? 1 : 0);
    }

    /** The calls are made one by one, and each answers as due: "night()", 1, "count(6)", 1, .. */
    void due(Run run, Object... callsAndAnswers) {
        for (int i = 0; i < callsAndAnswers.length; i += 2) {
            String call = (String) callsAndAnswers[i];
            String told = run + " " + call;
            due(told, run.ask(call), ((Number) callsAndAnswers[i + 1]).longValue());
        }
    }

    /** The same, and no one of the calls changes anything: each on the run as it is. */
    void still(Run run, Object... callsAndAnswers) {
        String ahead = run.again().seen();
        for (int i = 0; i < callsAndAnswers.length; i += 2) {
            String call = (String) callsAndAnswers[i];
            Run other = run.again();
            due(run + " " + call, other.ask(call), ((Number) callsAndAnswers[i + 1]).longValue());
            String behind = other.seen();
            due(run + " is the same behind " + call + changed(ahead, behind), behind.equals(ahead), true);
        }
    }

    private static String changed(String ahead, String behind) {
        String[] were = ahead.split("\n");
        String[] are = behind.split("\n");
        for (int i = 0; i < were.length && i < are.length; i++) {
            if (!were[i].equals(are[i])) {
                return " (" + were[i] + " / " + are[i] + ")";
            }
        }
        return "";
    }

    /** The text's FAULT; nothing is taken from the TAPE if there is one, all of it if not. */
    void fault(int sort, String text, int want) {
        Run run = Run.of("tape " + text);
        int number = want == SnowBooks.NONE ? 0 : SnowBooks.NONE;
        due(run, "fault(" + sort + ")", want, "count(4)", text.length());
        if (sort != 0 || number != 0) {
            due(run, "text(" + sort + ")", number);
        } else {
            due(run + " is a HALL", run.ask("text(0)") > 0, true);
        }
        due(run, "count(4)", number == 0 ? 0 : text.length());
    }

    /** None of the texts has a FAULT. */
    void whole(int sort, String... texts) {
        for (String text : texts) {
            fault(sort, text, SnowBooks.NONE);
        }
    }

    void end() {
        endSentence();
        for (String words : unasked) {
            System.out.println(title + ", " + words + "\n    nothing is asked of it");
        }
        System.out.println(title + ": " + sentences + " sentences, " + asked + " asked, " + wrong + " wrong");
        if (wrong != 0 || !unasked.isEmpty()) {
            System.exit(1);
        }
    }
}
