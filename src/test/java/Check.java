import java.util.NoSuchElementException;

/** Compares answers with those that are due, and feeds texts. */
final class Check {
    private final String title;
    private int wrong;
    private int asked;

    Check(String title) {
        this.title = title;
    }

    void due(String call, long got, long want) {
        asked++;
        if (got != want) {
            wrong++;
            System.out.println(title + ": " + call + " answered " + got + ", due is " + want);
        }
    }

    void due(String call, boolean got, boolean want) {
        due(call, got ? 1 : 0, want ? 1 : 0);
    }

    /** reader(r, what) throws NoSuchElementException. */
    void dueThrow(SnowBooks x, int reader, int what) {
        boolean thrown = false;
        try {
            x.reader(reader, what);
        } catch (NoSuchElementException e) {
            thrown = true;
        }
        due("reader(" + reader + ", " + what + ") throws", thrown, true);
    }

    /** The text alone is on the tape. */
    static void feed(SnowBooks x, String text) {
        x.end(0);
        for (int from = 0; from < text.length(); from += 20) {
            int[] numbers = new int[5];
            for (int i = 0; i < 20 && from + i < text.length(); i++) {
                numbers[i / 4] |= (text.charAt(from + i) & 255) << 24 - i % 4 * 8;
            }
            x.feed(numbers[0], numbers[1], numbers[2], numbers[3], numbers[4]);
        }
    }

    static int text(SnowBooks x, int sort, String text) {
        feed(x, text);
        return x.text(sort);
    }

    static SnowBooks hall(String text) {
        SnowBooks x = new SnowBooks();
        if (text(x, 0, text) < 0) {
            throw new IllegalStateException("no hall: " + text);
        }
        return x;
    }

    /** The law is read and holds. */
    static void law(SnowBooks x, String text) {
        int law = text(x, 1, text);
        if (law < 0 || !x.law(law)) {
            throw new IllegalStateException("no law: " + text);
        }
    }

    void fault(int sort, String text, int want) {
        SnowBooks x = new SnowBooks();
        feed(x, text);
        due("fault(" + sort + ") of \"" + text + "\"", x.fault(sort), want);
        due("bytes behind fault of \"" + text + "\"", x.count(4), text.length());
        int answer = want == SnowBooks.NONE ? x.count(sort == 1 ? 2 : 3) : SnowBooks.NONE;
        if (sort != 0) {
            due("text(" + sort + ") of \"" + text + "\"", x.text(sort), answer);
        } else if (want != SnowBooks.NONE) {
            due("text(0) of \"" + text + "\"", x.text(0), SnowBooks.NONE);
        }
        due("bytes behind text of \"" + text + "\"", x.count(4), want == SnowBooks.NONE && sort != 0 ? 0 : text.length());
    }

    void end() {
        System.out.println(title + ": " + asked + " asked, " + wrong + " wrong");
        if (wrong != 0) {
            System.exit(1);
        }
    }
}
