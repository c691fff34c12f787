import java.util.NoSuchElementException;
import java.util.Random;

/** Runs of 512 calls by fixed seeds, each answered by the program and by the model. */
final class ModelTest {
    private static final int CALLS = 46;
    private static Random luck;
    private static SnowBooks x;
    private static Model m;
    private static final StringBuilder STORY = new StringBuilder();
    private static int compared;

    public static void main(String[] args) {
        int runs = args.length > 0 ? Integer.parseInt(args[0]) : 400;
        int from = args.length > 1 ? Integer.parseInt(args[1]) : 1;
        for (int seed = from; seed < from + runs; seed++) {
            run(seed);
        }
        System.out.println("ModelTest: " + compared + " answers compared, 0 wrong");
    }

    private static int below(int n) {
        return luck.nextInt(n);
    }

    private static boolean oneOf(int n) {
        return below(n) == 0;
    }

    private static void run(int seed) {
        luck = new Random(seed);
        x = new SnowBooks();
        m = new Model();
        STORY.setLength(0);
        int calls = 0;
        if (!oneOf(10)) {
            calls += textOf(0);
        }
        while (calls < 480) {
            calls += oneOf(12) ? textOf(oneOf(3) ? 0 : 1 + below(2)) : one(below(CALLS));
        }
        while (calls < 512) {
            calls += one(44);
        }
    }

    private static void same(String call, long got, long want) {
        compared++;
        STORY.append(call).append(" = ").append(got).append('\n');
        if (got != want) {
            System.out.println(STORY.append("due was ").append(want));
            System.exit(1);
        }
    }

    // ---- texts

    private static String number(int n) {
        return n < 10 && oneOf(6) ? "0" + n : "" + n;
    }

    private static String items(String letters, int[] low, int[] high) {
        StringBuilder text = new StringBuilder();
        for (int i = 0; i < letters.length(); i++) {
            if (oneOf(2)) {
                text.append(letters.charAt(i)).append(number(low[i] + below(high[i] - low[i] + 1)));
            }
        }
        return text.toString();
    }

    private static String hallText() {
        int width = 1 + below(6);
        int height = 1 + below(5);
        int cells = width * height;
        StringBuilder text = new StringBuilder();
        String rule = "sw" + width + "h" + height + items("cfa", new int[] {0, 0, 1}, new int[] {99, 9, 20});
        int pages = 1 + below(oneOf(4) ? 12 : 6);
        int books = 1 + below(5);
        for (int p = 0; p < pages; p++) {
            text.append('p').append(oneOf(5) ? "" : "c" + number(below(cells)));
            text.append(items("dbt", new int[] {1, 0, 0}, new int[] {9, books - 1, 9})).append(';');
        }
        if (oneOf(2)) {
            text.append(rule).append(';');
            rule = "";
        }
        int readers = 1 + below(6);
        for (int r = 0; r < readers; r++) {
            text.append('r').append(oneOf(3) ? "" : "c" + number(below(cells)));
            text.append(items("bvn", new int[] {0, 0, 0}, new int[] {9, 9, books - 1})).append(';');
        }
        text.setLength(text.length() - 1);
        return rule.isEmpty() ? text.toString() : oneOf(2) ? text + ";" + rule : rule + ";" + text;
    }

    private static String atom(int depth) {
        if (depth < 6 && oneOf(5)) {
            return "[" + sum(depth + 1) + "]";
        }
        return oneOf(2) ? "" + "bcdsnt".charAt(below(6)) : "" + (oneOf(5) ? below(10000) : below(12));
    }

    private static String term(int depth) {
        return oneOf(3) ? atom(depth) + (oneOf(2) ? "*" : "/") + term(depth) : atom(depth);
    }

    private static String sum(int depth) {
        return oneOf(3) ? term(depth) + (oneOf(2) ? "+" : "-") + sum(depth) : term(depth);
    }

    private static String unit(int depth) {
        if (depth < 6 && oneOf(4)) {
            return oneOf(2) ? "!" + unit(depth + 1) : "(" + condition(depth + 1) + ")";
        }
        return sum(depth) + "=<>".charAt(below(3)) + sum(depth);
    }

    private static String truth(int depth) {
        return oneOf(3) ? unit(depth) + "&" + truth(depth) : unit(depth);
    }

    private static String condition(int depth) {
        return oneOf(3) ? truth(depth) + "|" + condition(depth) : truth(depth);
    }

    private static String lawText() {
        StringBuilder text = new StringBuilder();
        int clauses = 1 + below(4);
        for (int i = 0; i < clauses; i++) {
            text.append(i == 0 ? "y:" : ";y:").append(oneOf(3) ? "" : condition(0) + "?").append(sum(0));
        }
        return text.toString();
    }

    private static String planText() {
        StringBuilder text = new StringBuilder();
        int steps = 1 + below(oneOf(5) ? 17 : 7);
        for (int i = 0; i < steps; i++) {
            int kind = below(4);
            text.append(i == 0 ? "" : ";").append("rcgn".charAt(kind));
            if (kind < 3) {
                text.append(oneOf(9) ? below(10) : below(3)).append(number(kind == 2 ? below(30) : below(oneOf(3) ? 12 : 4)));
            }
        }
        return text.toString();
    }

    private static String spoilt(String text) {
        StringBuilder out = new StringBuilder(text);
        int times = oneOf(2) ? 0 : 1 + below(2);
        for (int i = 0; i < times; i++) {
            String signs = "sprwhcfadbtvnyg;:?!()[]|&=<>+-*/0123456789 xX_";
            char sign = signs.charAt(below(signs.length()));
            int at = below(out.length() + 1);
            switch (below(5)) {
                case 0 -> out.insert(at, sign);
                case 1 -> out.setLength(at);
                case 2 -> out.insert(at, below(1000));
                case 3 -> out.insert(at, (char) (1 + below(255)));
                default -> out.replace(at, Math.min(out.length(), at + 1), "" + sign);
            }
        }
        for (int i = below(6); i > 0; i--) {
            int at = below(out.length() + 1);
            boolean within = at > 0 && at < out.length() && Character.isDigit(out.charAt(at - 1))
                    && Character.isDigit(out.charAt(at));
            if (!within || oneOf(8)) {
                out.insert(at, ' ');
            }
        }
        return out.toString();
    }

    /** How many calls it took. */
    private static int textOf(int sort) {
        String text = spoilt(sort == 0 ? hallText() : sort == 1 ? lawText() : planText());
        text = text.length() > 240 ? text.substring(0, 240) : text;
        same("end(0)", x.end(0) ? 1 : 0, m.end(0) ? 1 : 0);
        int calls = 3;
        for (int from = 0; from < text.length(); from += 20) {
            int[] n = new int[5];
            for (int i = 0; i < 20 && from + i < text.length(); i++) {
                n[i / 4] |= text.charAt(from + i) << 24 - i % 4 * 8;
            }
            same("feed", x.feed(n[0], n[1], n[2], n[3], n[4]), m.feed(n[0], n[1], n[2], n[3], n[4]));
            calls++;
        }
        int as = oneOf(20) ? below(3) : sort;
        STORY.append("tape is \"").append(text).append("\"\n");
        same("fault(" + as + ")", x.fault(as), m.fault(as));
        int number = m.text(as);
        same("text(" + as + ")", x.text(as), number);
        if (as == 1 && number >= 0 && oneOf(2)) {
            same("law(" + number + ")", x.law(number) ? 1 : 0, m.law(number) ? 1 : 0);
            calls++;
        }
        return calls;
    }

    // ---- calls

    private static final int[] EDGES = {-2, -1, 99, 100, 60, 61, 12, 13, 240, Integer.MIN_VALUE, Integer.MAX_VALUE, 1 << 30};

    private static int near(int n) {
        return oneOf(40) ? EDGES[below(EDGES.length)] : oneOf(25) ? n : below(Math.max(1, n));
    }

    private static int pages() {
        return near(m.count(0));
    }

    private static int readers() {
        return near(m.count(1));
    }

    private static int cells() {
        return near(m.count(7));
    }

    private static int one(int call) {
        int r = readers();
        int p = pages();
        int c = cells();
        int k = near(oneOf(3) ? 20 : 100);
        int w = near(call == 8 || call == 7 ? 5 : 2);
        int b = near(5);
        String told = "call " + call + " of r " + r + " p " + p + " c " + c + " k " + k + " w " + w + " b " + b;
        if (call < 16) {
            early(call, told, r, p, c, k);
        } else if (call < 30) {
            middle(call, told, r, p, w, b);
        } else {
            late(call, told, r, p, c, k, w);
        }
        return 1;
    }

    private static void early(int call, String told, int r, int p, int c, int k) {
        int six = near(6);
        switch (call) {
            case 0 -> same(told + " feed", x.feed(c, p, 0, r, k), m.feed(c, p, 0, r, k));
            case 1 -> same(told + " end", x.end(k) ? 1 : 0, m.end(k) ? 1 : 0);
            case 2 -> same(told + " fault " + six, x.fault(six), m.fault(six));
            case 3 -> same(told + " text " + six, x.text(six), m.text(six));
            case 4 -> same(told + " hall " + six, x.hall(six), m.hall(six));
            case 5 -> same(told + " page " + six, x.page(p, six), m.page(p, six));
            case 6 -> readerCall(told, r, six);
            case 7 -> same(told + " memory", x.memory(r, p), m.memory(r, p));
            case 8 -> same(told + " law " + (six - 1), x.law(six - 1) ? 1 : 0, m.law(six - 1) ? 1 : 0);
            case 9 -> same(told + " slips", x.slips(k) ? 1 : 0, m.slips(k) ? 1 : 0);
            case 10 -> same(told + " melt", x.melt(r, p, c), m.melt(r, p, c));
            case 11 -> same(told + " read", x.read(r, p), m.read(r, p));
            case 12 -> same(told + " recut", x.recut(r, p), m.recut(r, p));
            case 13 -> same(told + " go", x.go(r, c), m.go(r, c));
            case 14 -> tellCall(told, r, readers());
            default -> same(told + " night", x.night(), m.night());
        }
    }

    private static void tellCall(String told, int r, int other) {
        same(told + " tell " + other, x.tell(r, other), m.tell(r, other));
    }

    private static void readerCall(String told, int r, int what) {
        long got = Long.MIN_VALUE;
        long want = Long.MIN_VALUE;
        try {
            got = x.reader(r, what);
        } catch (NoSuchElementException e) {
            STORY.append("thrown ");
        }
        try {
            want = m.reader(r, what);
        } catch (NoSuchElementException e) {
            STORY.append("due ");
        }
        same(told + " reader " + what, got, want);
    }

    private static void middle(int call, String told, int r, int p, int w, int b) {
        int plan = near(4);
        int cell = cellOf(p);
        int i = near(16);
        int nights = oneOf(3) ? near(61) : 1 + below(4);
        long seed = oneOf(3) ? luck.nextLong() : below(1000);
        switch (call) {
            case 16 -> same(told + " hare " + cell, x.hare(cell), m.hare(cell));
            case 17 -> same(told + " centuries " + nights + " " + seed, x.centuries(nights, seed), m.centuries(nights, seed));
            case 18 -> same(told + " undo", x.undo(), m.undo());
            case 19 -> same(told + " log " + i, x.log(i * 4 + b - 2, b), m.log(i * 4 + b - 2, b));
            case 20 -> same(told + " step " + i, x.step(plan, i, b), m.step(plan, i, b));
            case 21 -> same(told + " run " + plan, x.run(plan, w), m.run(plan, w));
            case 22 -> same(told + " perform " + plan, x.perform(plan), m.perform(plan));
            case 23 -> same(told + " loss", x.loss(r, p), m.loss(r, p));
            case 24 -> same(told + " left", x.left(i * 6 + b), m.left(i * 6 + b));
            case 25 -> same(told + " last", x.last(p), m.last(p));
            case 26 -> same(told + " order", x.order(r, b, w), m.order(r, b, w));
            case 27 -> same(told + " share", x.share(b, w), m.share(b, w));
            case 28 -> same(told + " who", x.who(b), m.who(b));
            default -> same(told + " first", x.first(), m.first());
        }
    }

    private static int cellOf(int page) {
        return oneOf(2) ? m.page(page, 0) : cells();
    }

    private static void late(int call, String told, int r, int p, int c, int k, int w) {
        int cell = cellOf(p);
        int i = oneOf(2) ? -1 : near(20);
        int n = 1 + near(12);
        int few = below(30);
        switch (call) {
            case 30 -> same(told + " placeFor", x.placeFor(p, w), m.placeFor(p, w));
            case 31 -> same(told + " needy", x.needy(), m.needy());
            case 32 -> same(told + " known", x.known(), m.known());
            case 33 -> same(told + " sure", x.sure(), m.sure());
            case 34 -> same(told + " split", x.split(), m.split());
            case 35 -> same(told + " likely", x.likely(p, w), m.likely(p, w));
            case 36 -> same(told + " breathed", x.breathed(p, cell, few, i), m.breathed(p, cell, few, i));
            case 37 -> same(told + " breathed", x.breathed(p, c, k, i), m.breathed(p, c, k, i));
            case 38 -> same(told + " exam " + n, x.exam(n, i + 1, k), m.exam(n, i + 1, k));
            case 39 -> same(told + " learnt", x.learnt(r), m.learnt(r));
            case 40 -> same(told + " quiet", x.quiet(r, w), m.quiet(r, w));
            case 41 -> same(told + " far", x.far(), m.far());
            case 42 -> same(told + " image", x.image(), m.image());
            case 43 -> same(told + " back", x.back(), m.back());
            default -> same(told + " count " + n, x.count(n - 1), m.count(n - 1));
        }
    }
}
