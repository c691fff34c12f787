import java.lang.reflect.InvocationTargetException;
import java.lang.reflect.Method;
import java.util.ArrayList;
import java.util.Arrays;
import java.util.List;
import java.util.NoSuchElementException;

/**
 * A run of calls on a new object, told as texts: so that it can be made again, and two of them compared.
 * Besides calls as "read(0, 1)" it takes "hall p;r", "law y:d" (it holds then), "plan n;r00" and "tape abc".
 */
final class Run {
    /** Answered for a call that throws a NoSuchElementException. */
    static final long THROWS = Long.MIN_VALUE;
    private static final int MOST_CALLS = 512;

    private final List<String> calls = new ArrayList<>();
    private final SnowBooks x = new SnowBooks();
    private int made;

    private Run(List<String> calls) {
        for (String call : calls) {
            then(call);
        }
    }

    static Run of(String... calls) {
        return new Run(Arrays.asList(calls));
    }

    Run again() {
        return new Run(calls);
    }

    Run then(String call) {
        int blank = call.indexOf(' ');
        String word = blank < 0 ? "" : call.substring(0, blank);
        String text = call.substring(blank + 1);
        switch (word) {
            case "tape" -> onTape(text);
            case "hall" -> taken(call, text(0, text));
            case "law" -> taken(call, answer("law(" + taken(call, text(1, text)) + ")") - 1);
            case "plan" -> taken(call, text(2, text));
            default -> answer(call);
        }
        calls.add(call);
        return this;
    }

    /** The answer to a call (a boolean counts 1 or 0). */
    long ask(String call) {
        calls.add(call);
        return answer(call);
    }

    private static long taken(String call, long answer) {
        if (answer < 0) {
            throw new IllegalStateException("a test's own text is wrong: " + call);
        }
        return answer;
    }

    /** The text alone is on the TAPE. */
    private void onTape(String text) {
        answer("end(0)");
        for (int from = 0; from < text.length(); from += 20) {
            StringBuilder feed = new StringBuilder("feed(");
            for (int i = 0; i < 20; i += 4) {
                feed.append(i == 0 ? "" : ", ").append(number(text, from + i));
            }
            taken("tape " + text, answer(feed.append(')').toString()));
        }
    }

    private static int number(String text, int from) {
        int number = 0;
        for (int i = from; i < from + 4; i++) {
            number = number << 8 | (i < text.length() ? text.charAt(i) : 0);
        }
        return number;
    }

    private long text(int sort, String text) {
        onTape(text);
        return answer("text(" + sort + ")");
    }

    private long answer(String call) {
        made++;
        if (made > MOST_CALLS) {
            throw new IllegalStateException("more than 512 calls in a test");
        }
        int open = call.indexOf('(');
        Method method = method(call.substring(0, open));
        String told = call.substring(open + 1, call.length() - 1).trim();
        String[] words = told.isEmpty() ? new String[0] : told.split(", *");
        Object[] given = new Object[words.length];
        for (int i = 0; i < words.length; i++) {
            boolean wide = method.getParameterTypes()[i] == long.class;
            given[i] = wide ? (Object) Long.valueOf(words[i]) : (Object) Integer.valueOf(words[i]);
        }
        return invoked(method, given, call);
    }

    private static Method method(String name) {
        for (Method method : SnowBooks.class.getDeclaredMethods()) {
            if (method.getName().equals(name)) {
                return method;
            }
        }
        throw new IllegalStateException("no such call: " + name);
    }

    private long invoked(Method method, Object[] given, String call) {
        try {
            Object answer = method.invoke(x, given);
            return answer instanceof Boolean ? (Boolean) answer ? 1 : 0 : ((Integer) answer).longValue();
        } catch (InvocationTargetException e) {
            if (e.getCause().getClass() == NoSuchElementException.class) {
                return THROWS;
            }
            throw new IllegalStateException(call + " threw", e.getCause());
        } catch (IllegalAccessException e) {
            throw new IllegalStateException(e);
        }
    }

    // ---- all that can be seen

    private void see(StringBuilder seen, String call, int from, int to) {
        for (int i = from; i < to; i++) {
            String asked = call.replace("#", Integer.toString(i));
            seen.append(asked).append('=').append(answer(asked)).append(' ');
        }
        seen.append('\n');
    }

    /** What the calls that only ask answer now. */
    String now() {
        StringBuilder seen = new StringBuilder();
        seeNow(seen);
        return seen.toString();
    }

    /** The same, then what is seen behind two UNDOS, then behind BACK. */
    String seen() {
        StringBuilder seen = new StringBuilder();
        seeNow(seen);
        for (int i = 0; i < 2; i++) {
            see(seen, "undo()", 0, 1);
            seeSnow(seen);
        }
        see(seen, "back()", 0, 1);
        seeSnow(seen);
        return seen.toString();
    }

    private void seeNow(StringBuilder seen) {
        int pages = (int) answer("count(0)");
        int readers = (int) answer("count(1)");
        int logged = (int) answer("count(11)");
        seeSnow(seen);
        see(seen, "fault(#)", 0, 3);
        for (int r = 0; r < readers; r++) {
            see(seen, "melt(" + r + ", #, " + answer("reader(" + r + ", 0)") + ")", 0, pages);
        }
        for (int what = 0; what < 4; what++) {
            see(seen, "log(#, " + what + ")", 0, logged);
        }
        for (int plan = 0; plan < answer("count(3)"); plan++) {
            for (int i = 0; answer("step(" + plan + ", " + i + ", 0)") != SnowBooks.HIDDEN; i++) {
                see(seen, "step(" + plan + ", " + i + ", #)", 0, 3);
            }
        }
    }

    private void seeSnow(StringBuilder seen) {
        int pages = (int) answer("count(0)");
        int readers = (int) answer("count(1)");
        see(seen, "count(#)", 0, 13);
        see(seen, "hall(#)", 0, 5);
        for (int p = 0; p < pages; p++) {
            see(seen, "page(" + p + ", #)", 0, 4);
        }
        for (int r = 0; r < readers; r++) {
            see(seen, "reader(" + r + ", #)", 0, 6);
            see(seen, "memory(" + r + ", #)", 0, pages);
        }
    }

    @Override
    public String toString() {
        return calls.toString();
    }
}
