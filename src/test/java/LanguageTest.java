import java.io.IOException;
import java.lang.management.ManagementFactory;
import java.lang.reflect.Constructor;
import java.lang.reflect.Field;
import java.lang.reflect.Method;
import java.lang.reflect.Modifier;
import java.nio.file.Files;
import java.nio.file.Path;
import java.util.ArrayList;
import java.util.Arrays;
import java.util.List;
import java.util.TreeSet;

/** The face, and those rules of LANGUAGE.md that can be seen from outside. */
final class LanguageTest {
    private static final Check C = new Check("LanguageTest");
    private static final String SOURCE = "src/main/java/SnowBooks.java";
    private static final String[] FACE = {
        "int feed(int,int,int,int,int)", "boolean end(int)", "int fault(int)", "int text(int)", "int hall(int)",
        "int page(int,int)", "int reader(int,int)", "int memory(int,int)", "boolean law(int)", "boolean slips(int)",
        "int melt(int,int,int)", "int read(int,int)", "int recut(int,int)", "int go(int,int)", "int tell(int,int)",
        "int night()", "int hare(int)", "int centuries(int,long)", "int undo()", "int log(int,int)",
        "int step(int,int,int)", "int run(int,int)", "int perform(int)", "int loss(int,int)", "int left(int)",
        "int last(int)", "int order(int,int,int)", "int share(int,int)", "int who(int)", "int first()",
        "int placeFor(int,int)", "int needy()", "int known()", "int sure()", "int split()", "int likely(int,int)",
        "int breathed(int,int,int,int)", "int exam(int,int,int)", "int learnt(int)", "int quiet(int,int)", "int far()",
        "int image()", "int back()", "int count(int)"};

    public static void main(String[] args) throws IOException {
        face();
        inside();
        source();
        room();
        C.end();
    }

    private static String told(Method m) {
        StringBuilder text = new StringBuilder(m.getReturnType().getName() + " " + m.getName() + "(");
        for (Class<?> type : m.getParameterTypes()) {
            text.append(text.charAt(text.length() - 1) == '(' ? "" : ",").append(type.getName());
        }
        return text.append(")").toString();
    }

    private static void face() {
        TreeSet<String> shown = new TreeSet<>();
        for (Method m : SnowBooks.class.getDeclaredMethods()) {
            if (!Modifier.isPrivate(m.getModifiers())) {
                shown.add((Modifier.isPublic(m.getModifiers()) ? "" : "not public ") + told(m));
            }
        }
        TreeSet<String> due = new TreeSet<>(Arrays.asList(FACE));
        C.due("methods " + shown, shown.equals(due), true);
        for (Field f : SnowBooks.class.getDeclaredFields()) {
            boolean constant = f.getName().equals("NONE") || f.getName().equals("HIDDEN");
            C.due("private field " + f.getName(), Modifier.isPrivate(f.getModifiers()), !constant);
        }
        C.due("NONE", SnowBooks.NONE, -1);
        C.due("HIDDEN", SnowBooks.HIDDEN, -1000000);
        C.due("final", Modifier.isFinal(SnowBooks.class.getModifiers()), true);
        Constructor<?>[] made = SnowBooks.class.getDeclaredConstructors();
        C.due("one public constructor", made.length == 1 && Modifier.isPublic(made[0].getModifiers()), true);
    }

    private static void inside() {
        List<Class<?>> all = new ArrayList<>(Arrays.asList(SnowBooks.class.getDeclaredClasses()));
        all.add(SnowBooks.class);
        C.due("at most twelve classes", all.size() <= 12, true);
        TreeSet<String> names = new TreeSet<>();
        for (String method : FACE) {
            names.add(method.substring(method.indexOf(' ') + 1, method.indexOf('(')));
        }
        for (Class<?> c : all) {
            int fields = 0;
            for (Field f : c.getDeclaredFields()) {
                boolean fixed = Modifier.isStatic(f.getModifiers());
                fields += fixed ? 0 : 1;
                C.due("final if static: " + f, !fixed || Modifier.isFinal(f.getModifiers()), true);
            }
            C.due("fields of " + c.getName(), fields <= 20, true);
            for (Method m : c.getDeclaredMethods()) {
                boolean own = !Modifier.isPublic(m.getModifiers());
                C.due("a name of the face: " + m, own && names.contains(m.getName()), false);
                C.due("parameters of " + m, m.getParameterCount() <= 7, true);
            }
            C.due("static or the face: " + c, c == SnowBooks.class || Modifier.isStatic(c.getModifiers()), true);
        }
    }

    private static void source() throws IOException {
        List<String> lines = Files.readAllLines(Path.of(SOURCE));
        String[] banned = {"->", "::", "finally", "synchronized", "assert", "try {", "catch", "package ", "Exact(",
            "getMessage", " + \"", "\" + ", "new int[n", "static {", "var ", "Object ", "record ", "@"};
        String start = null;
        int from = 0;
        for (int i = 0; i < lines.size(); i++) {
            String line = lines.get(i);
            for (String word : banned) {
                C.due("line " + (i + 1) + " has " + word, line.contains(word), false);
            }
            boolean thrown = line.matches(" *throw new NoSuchElementException\\(\"[A-Za-z, ]+\"\\);");
            C.due("rule 6, line " + (i + 1), thrown, line.contains("throw "));
            if (line.startsWith("import ")) {
                boolean may = line.equals("import java.util.Arrays;")
                        || line.equals("import java.util.NoSuchElementException;");
                C.due(line, may, true);
            }
            C.due("line " + (i + 1) + " is short", line.length() <= 125, true);
            boolean opens = line.matches("( {4}| {8})[\\w\\[\\] ]+\\(.*\\{") && !line.contains(" class ");
            if (opens && (start == null || line.indexOf(line.trim()) < start.indexOf(start.trim()))) {
                start = line;
                from = i;
            } else if (start != null && line.equals(start.substring(0, start.indexOf(start.trim())) + "}")) {
                C.due("length of " + start.trim(), i - from <= 60, true);
                start = null;
            }
        }
    }

    /** Rule 12: an object and its 512 calls, the dearest among them, live in little room; the calls make nothing. */
    private static void room() {
        dearCalls(new SnowBooks());
        long ahead = bytesMade();
        SnowBooks x = new SnowBooks();
        long made = bytesMade() - ahead;
        dearCalls(x);
        long behind = bytesMade();
        C.due("bytes of a new object: " + made, made < 100000, true);
        C.due("bytes made by calls: " + (behind - ahead - made), behind - ahead - made < 10000, true);
    }

    private static long bytesMade() {
        return ((com.sun.management.ThreadMXBean) ManagementFactory.getThreadMXBean()).getCurrentThreadAllocatedBytes();
    }

    private static final int[] HALL = numbers("sf0a99;p;pc1;pc2;pc3;pc4;pb1;p;p;p;p;p;p;r;r;r;r;r;r");
    private static final int[] LAW = numbers("y:[[b+c]*d]/2=7&!(s=1|n=2)?t;y:1");
    private static final int[] PLAN = numbers("n;n;n;n;n;n;n;n;n;n;n;n;n;n;n;r00");

    private static int[] numbers(String text) {
        int[] numbers = new int[(text.length() + 19) / 20 * 5];
        for (int i = 0; i < text.length(); i++) {
            numbers[i / 4] |= text.charAt(i) << 24 - i % 4 * 8;
        }
        return numbers;
    }

    private static int text(SnowBooks x, int sort, int[] n) {
        for (int i = 0; i < n.length; i += 5) {
            x.feed(n[i], n[i + 1], n[i + 2], n[i + 3], n[i + 4]);
        }
        return x.fault(sort) == SnowBooks.NONE ? x.text(sort) : -3;
    }

    private static void dearCalls(SnowBooks x) {
        int taken = text(x, 0, HALL) - 12 + text(x, 1, LAW) + text(x, 2, PLAN);
        C.due("texts taken", taken, 0);
        x.law(0);
        for (int i = 0; i < 12; i++) {
            x.centuries(60, i);
            x.image();
            x.recut(0, i);
            x.perform(0);
            for (int book = 0; book < 5; book++) {
                x.order(i % 6, book, 1);
                x.share(book, 1);
                x.who(book);
            }
            x.run(0, 1);
            x.left(99);
            x.last(i);
            x.placeFor(i, 0);
            x.likely(i, 0);
            x.breathed(i, i, 9, 5);
            x.exam(12, i, 50);
            x.quiet(i % 6, 0);
            x.undo();
            x.back();
        }
    }
}
