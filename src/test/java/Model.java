import java.util.ArrayList;
import java.util.List;
import java.util.NoSuchElementException;

/** The document once more, written for plainness and not for speed: whole copies, all rows, all ways. */
final class Model {
    static final int NONE = -1;
    static final int HIDDEN = -1000000;

    /** All that an IMAGE keeps. */
    private static final class State {
        int cold;
        int day;
        int[] depth;
        int[] says;
        int[] cell;
        boolean[] done;
        int[][] memory;
        List<int[]> log = new ArrayList<>();

        State copy() {
            State s = new State();
            s.cold = cold;
            s.day = day;
            s.depth = depth.clone();
            s.says = says.clone();
            s.cell = cell.clone();
            s.done = done.clone();
            s.memory = new int[memory.length][];
            for (int r = 0; r < memory.length; r++) {
                s.memory[r] = memory[r].clone();
            }
            s.log = new ArrayList<>(log);
            return s;
        }
    }

    private StringBuilder tape = new StringBuilder();
    private int[] rule;
    private int[][] pages = {};
    private int[][] readers = {};
    private State now;
    private State image;
    private final List<State> past = new ArrayList<>();
    private final List<String> laws = new ArrayList<>();
    private final List<List<int[]>> plans = new ArrayList<>();
    private int holds = NONE;
    private int slips;
    private long x;

    // ---- texts

    int feed(int a, int b, int c, int d, int e) {
        StringBuilder more = new StringBuilder();
        for (int number : new int[] {a, b, c, d, e}) {
            for (int i = 3; i >= 0; i--) {
                int sign = number >> 8 * i & 255;
                if (sign > 0) {
                    more.append((char) sign);
                }
            }
        }
        if (tape.length() + more.length() > 240) {
            return NONE;
        }
        tape.append(more);
        return tape.length();
    }

    boolean end(int n) {
        if (n < 0 || n > tape.length()) {
            return false;
        }
        tape.setLength(n);
        return true;
    }

    int fault(int sort) {
        String text = tape.toString();
        return sort == 0 ? hallFault(text) : sort == 1 ? Grammar.fault(text) : sort == 2 ? planFault(text) : -2;
    }

    private static int skip(String text, int at) {
        while (at < text.length() && text.charAt(at) == ' ') {
            at++;
        }
        return at;
    }

    private static boolean digitAt(String text, int at) {
        return at < text.length() && Character.digit(text.charAt(at), 10) >= 0 && text.charAt(at) < 128;
    }

    /** Behind a number of one or two digits; or, below 0, minus its fault, less 1. */
    private static int number(String text, int at, int low, int high) {
        if (!digitAt(text, at)) {
            return -at - 1;
        }
        if (digitAt(text, at + 1) && digitAt(text, at + 2)) {
            return -(at + 2) - 1;
        }
        int end = digitAt(text, at + 1) ? at + 2 : at + 1;
        int value = Integer.parseInt(text.substring(at, end));
        return value < low || value > high ? -(end - 1) - 1 : end;
    }

    private int[] newRule;
    private List<int[]> newPages;
    private List<int[]> newReaders;

    /** By hand: a clause at a time, an item at a time. */
    private int hallFault(String text) {
        newRule = null;
        newPages = new ArrayList<>();
        newReaders = new ArrayList<>();
        int at = 0;
        while (true) {
            at = skip(text, at);
            char kind = at < text.length() ? text.charAt(at) : '?';
            boolean full = kind == 's' && newRule != null || kind == 'p' && newPages.size() == 12
                    || kind == 'r' && newReaders.size() == 6;
            if ("spr".indexOf(kind) < 0 || full) {
                return at;
            }
            at++;
            String letters = kind == 's' ? "whcfa" : kind == 'p' ? "cdbt" : "cbvn";
            int[] bounds = kind == 's' ? new int[] {1, 6, 1, 5, 0, 99, 0, 9, 1, 99}
                    : kind == 'p' ? new int[] {0, 29, 1, 9, 0, 4, 0, 9} : new int[] {0, 29, 0, 9, 0, 9, 0, 4};
            int[] values = kind == 's' ? new int[] {5, 4, 40, 1, 60}
                    : kind == 'p' ? new int[] {0, 5, 0, 0} : new int[] {0, 3, 3, 0};
            if (kind == 's') {
                newRule = values;
            } else {
                (kind == 'p' ? newPages : newReaders).add(values);
            }
            String told = "";
            at = skip(text, at);
            while (at < text.length() && text.charAt(at) != ';') {
                char letter = text.charAt(at);
                int item = letters.indexOf(letter);
                if (item < 0 || told.indexOf(letter) >= 0) {
                    return at;
                }
                told += letter;
                int from = skip(text, at + 1);
                int end = number(text, from, bounds[2 * item], bounds[2 * item + 1]);
                if (end < 0) {
                    return -end - 1;
                }
                values[item] = Integer.parseInt(text.substring(from, end));
                at = skip(text, end);
            }
            if (at == text.length()) {
                return hallEndFault(at);
            }
            at++;
        }
    }

    private int hallEndFault(int length) {
        int[] r = newRule == null ? new int[] {5, 4, 40, 1, 60} : newRule;
        newRule = r;
        boolean wrong = newPages.isEmpty() || newReaders.isEmpty();
        for (int[] p : newPages) {
            wrong |= p[0] >= r[0] * r[1];
        }
        for (int[] p : newReaders) {
            wrong |= p[0] >= r[0] * r[1];
        }
        return wrong ? length : NONE;
    }

    private List<int[]> newPlan;

    private int planFault(String text) {
        newPlan = new ArrayList<>();
        int at = skip(text, 0);
        while (true) {
            int kind = at < text.length() ? "rcgn".indexOf(text.charAt(at)) : -1;
            if (kind < 0) {
                return at;
            }
            at = skip(text, at + 1);
            if (kind == 3) {
                newPlan.add(new int[] {3, NONE, NONE});
            } else {
                if (!digitAt(text, at)) {
                    return at;
                }
                int from = skip(text, at + 1);
                int end = number(text, from, 0, kind == 2 ? 29 : 11);
                if (end < 0) {
                    return -end - 1;
                }
                newPlan.add(new int[] {kind, text.charAt(at) - '0', Integer.parseInt(text.substring(from, end))});
                at = skip(text, end);
            }
            if (at == text.length()) {
                return NONE;
            }
            if (text.charAt(at) != ';' || newPlan.size() == 16) {
                return at;
            }
            at = skip(text, at + 1);
        }
    }

    int text(int sort) {
        if (sort < 0 || sort > 2 || fault(sort) != NONE) {
            return NONE;
        }
        if (sort == 0) {
            openHall();
            tape.setLength(0);
            return pages.length;
        }
        if (sort == 1 ? laws.size() == 4 : plans.size() == 4) {
            return NONE;
        }
        if (sort == 1) {
            laws.add(tape.toString().replace(" ", ""));
        } else {
            plans.add(newPlan);
        }
        tape.setLength(0);
        return sort == 1 ? laws.size() - 1 : plans.size() - 1;
    }

    private void openHall() {
        rule = newRule;
        pages = newPages.toArray(new int[0][]);
        readers = newReaders.toArray(new int[0][]);
        now = new State();
        now.cold = rule[2];
        now.depth = new int[pages.length];
        now.says = new int[pages.length];
        for (int p = 0; p < pages.length; p++) {
            now.depth[p] = pages[p][1];
            now.says[p] = pages[p][3];
        }
        now.cell = new int[readers.length];
        now.done = new boolean[readers.length];
        now.memory = new int[readers.length][pages.length];
        for (int r = 0; r < readers.length; r++) {
            now.cell[r] = readers[r][0];
            for (int p = 0; p < pages.length; p++) {
                now.memory[r][p] = NONE;
            }
        }
        past.clear();
        image = null;
    }

    // ---- laws, by cutting their text at the sign that binds least

    private static int cut(String text, String signs, boolean last) {
        int nested = 0;
        int found = -1;
        for (int i = 0; i < text.length(); i++) {
            char c = text.charAt(i);
            nested += c == '(' || c == '[' ? 1 : c == ')' || c == ']' ? -1 : 0;
            if (nested == 0 && signs.indexOf(c) >= 0 && (last || found < 0)) {
                found = i;
            }
        }
        return found;
    }

    private static long bounded(long v) {
        return v > 1000000 ? 1000000 : v < -1000000 ? -1000000 : v;
    }

    private static long sum(String text, int[] letters) {
        int at = cut(text, "+-", true);
        if (at >= 0) {
            long a = sum(text.substring(0, at), letters);
            long b = sum(text.substring(at + 1), letters);
            return bounded(text.charAt(at) == '+' ? a + b : a - b);
        }
        at = cut(text, "*/", true);
        if (at >= 0) {
            long a = sum(text.substring(0, at), letters);
            long b = sum(text.substring(at + 1), letters);
            return bounded(text.charAt(at) == '*' ? a * b : b == 0 ? 0 : a / b);
        }
        if (text.charAt(0) == '[') {
            return sum(text.substring(1, text.length() - 1), letters);
        }
        int letter = "bcdsnt".indexOf(text.charAt(0));
        return letter >= 0 ? letters[letter] : Long.parseLong(text);
    }

    private static boolean holds(String text, int[] letters) {
        int at = cut(text, "|", false);
        if (at >= 0) {
            return holds(text.substring(0, at), letters) | holds(text.substring(at + 1), letters);
        }
        at = cut(text, "&", false);
        if (at >= 0) {
            return holds(text.substring(0, at), letters) & holds(text.substring(at + 1), letters);
        }
        if (text.charAt(0) == '!') {
            return !holds(text.substring(1), letters);
        }
        if (text.charAt(0) == '(') {
            return holds(text.substring(1, text.length() - 1), letters);
        }
        at = cut(text, "=<>", false);
        long a = sum(text.substring(0, at), letters);
        long b = sum(text.substring(at + 1), letters);
        return text.charAt(at) == '=' ? a == b : text.charAt(at) == '<' ? a < b : a > b;
    }

    private static long worth(String law, int[] letters) {
        for (String clause : law.split(";")) {
            String rest = clause.substring(2);
            int at = rest.indexOf('?');
            if (at < 0 || holds(rest.substring(0, at), letters)) {
                return sum(rest.substring(at + 1), letters);
            }
        }
        return 0;
    }

    // ---- what is told

    private boolean isPage(int p) {
        return p >= 0 && p < pages.length;
    }

    private boolean isReader(int r) {
        return r >= 0 && r < readers.length;
    }

    private boolean isCell(int c) {
        return rule != null && c >= 0 && c < rule[0] * rule[1];
    }

    private boolean there(State s, int p) {
        return isPage(p) && s.depth[p] > 0;
    }

    private int steps(int a, int b) {
        int w = rule[0];
        return Math.abs(a / w - b / w) + Math.abs(a % w - b % w);
    }

    int hall(int what) {
        if (now == null || what < 0 || what > 4) {
            return NONE;
        }
        return what == 2 ? now.cold : rule[what];
    }

    int page(int p, int what) {
        if (!isPage(p) || what < 0 || what > 3) {
            return NONE;
        }
        return what == 1 ? now.depth[p] : what == 3 ? now.says[p] : pages[p][what];
    }

    int reader(int r, int what) {
        if (!isReader(r) || what < 0 || what > 5) {
            throw new NoSuchElementException();
        }
        return what == 0 ? now.cell[r] : what == 4 ? now.done[r] ? 1 : 0 : what == 5 ? knows(now, r) : readers[r][what];
    }

    private int knows(State s, int r) {
        int bits = 0;
        for (int p = 0; p < pages.length; p++) {
            bits += s.memory[r][p] >= 0 ? 1 << p : 0;
        }
        return bits;
    }

    int memory(int r, int p) {
        return isReader(r) && isPage(p) ? now.memory[r][p] : NONE;
    }

    boolean law(int law) {
        if (law < -1 || law >= laws.size()) {
            return false;
        }
        holds = law;
        return true;
    }

    boolean slips(int v) {
        if (v < 0 || v > 99 || v == slips) {
            return false;
        }
        slips = v;
        return true;
    }

    private int melt(State s, int r, int p, int cell, int n) {
        int far = steps(cell, pages[p][0]);
        if (far > 1) {
            return 0;
        }
        long worth;
        if (holds == NONE) {
            worth = readers[r][1] - s.cold / 20 + (far == 0 ? 1 : 0);
        } else {
            worth = worth(laws.get(holds), new int[] {readers[r][1], s.cold, s.depth[p], far, n, s.day});
        }
        return worth < 0 ? 0 : worth > 9 ? 9 : (int) worth;
    }

    private int others(State s, int r, int cell) {
        int n = 0;
        for (int o = 0; o < readers.length; o++) {
            n += o != r && s.cell[o] == cell ? 1 : 0;
        }
        return n;
    }

    int melt(int r, int p, int cell) {
        return isReader(r) && isCell(cell) && there(now, p) ? melt(now, r, p, cell, others(now, r, cell)) : NONE;
    }

    /** All by depths as they were. */
    private int[] losses(State s, int r, int cell) {
        int[] lost = new int[pages.length];
        for (int p = 0; p < pages.length; p++) {
            lost[p] = there(s, p) ? Math.min(s.depth[p], melt(s, r, p, cell, others(s, r, cell))) : 0;
        }
        return lost;
    }

    private static int all(int[] row) {
        int sum = 0;
        for (int v : row) {
            sum += v;
        }
        return sum;
    }

    // ---- acts: each answers depth lost, or NONE if it can't be

    private int act(State s, int kind, int who, int what) {
        if (kind == 4) {
            return nightOn(s);
        }
        if (kind == 5) {
            return hareOn(s, what);
        }
        if (!isReader(who) || s.done[who]) {
            return NONE;
        }
        int cell = kind == 2 ? what : kind == 3 ? s.cell[who] : isPage(what) ? pages[what][0] : NONE;
        if (!isCell(cell) || steps(s.cell[who], cell) > readers[who][2]) {
            return NONE;
        }
        if (kind == 0 && !there(s, what) || kind == 1 && s.memory[who][what] < 0 || kind == 2 && cell == s.cell[who]) {
            return NONE;
        }
        if (kind == 3 && (!isReader(what) || what == who || s.cell[what] != s.cell[who])) {
            return NONE;
        }
        s.done[who] = true;
        s.cell[who] = cell;
        int lost = 0;
        if (kind == 0) {
            s.memory[who][what] = s.says[what];
            int[] losses = losses(s, who, cell);
            for (int p = 0; p < pages.length; p++) {
                s.depth[p] -= losses[p];
            }
            lost = all(losses);
        } else if (kind == 1) {
            s.depth[what] = 9;
            s.says[what] = s.memory[who][what];
        } else if (kind == 3) {
            for (int p = 0; p < pages.length; p++) {
                s.memory[what][p] = s.memory[what][p] < 0 ? s.memory[who][p] : s.memory[what][p];
            }
        }
        s.log.add(0, new int[] {kind, who, what, lost});
        return lost;
    }

    private int nightOn(State s) {
        s.day++;
        s.cold = Math.max(0, s.cold - rule[3]);
        int lost = 0;
        for (int r = 0; r < readers.length; r++) {
            s.done[r] = false;
        }
        for (int p = 0; p < pages.length; p++) {
            if (s.depth[p] > 0 && (s.cold == 0 || s.day >= rule[4])) {
                s.depth[p]--;
                lost++;
            }
        }
        s.log.add(0, new int[] {4, NONE, NONE, lost});
        return lost;
    }

    private int hareOn(State s, int cell) {
        if (!isCell(cell)) {
            return NONE;
        }
        int lost = 0;
        for (int p = 0; p < pages.length; p++) {
            if (pages[p][0] == cell) {
                lost += Math.min(3, s.depth[p]);
                s.depth[p] = Math.max(0, s.depth[p] - 3);
            }
        }
        s.log.add(0, new int[] {5, NONE, cell, lost});
        return lost;
    }

    private int act(int kind, int who, int what) {
        if (now == null) {
            return NONE;
        }
        State before = now.copy();
        int lost = act(now, kind, who, what);
        if (lost != NONE) {
            past.add(before);
            if (past.size() > 40) {
                past.remove(0);
            }
        }
        return lost;
    }

    int read(int r, int p) {
        return act(0, r, p) == NONE ? NONE : now.says[p];
    }

    int recut(int r, int p) {
        return act(1, r, p) == NONE ? NONE : now.says[p];
    }

    int go(int r, int cell) {
        int from = isReader(r) ? now.cell[r] : 0;
        return act(2, r, cell) == NONE ? NONE : steps(from, cell);
    }

    int tell(int r, int other) {
        int ahead = isReader(other) ? Integer.bitCount(knows(now, other)) : 0;
        return act(3, r, other) == NONE ? NONE : Integer.bitCount(knows(now, other)) - ahead;
    }

    int night() {
        return act(4, NONE, NONE) == NONE ? NONE : now.day;
    }

    int hare(int cell) {
        return act(5, NONE, cell);
    }

    private int draw(int m) {
        x = x * 6364136223846793005L + 1442695040888963407L;
        return (int) Long.remainderUnsigned(x >>> 33, m);
    }

    int centuries(int n, long seed) {
        if (now == null || n < 1 || n > 60) {
            return NONE;
        }
        x = seed;
        while (n-- > 0) {
            for (int r = 0; r < readers.length; r++) {
                if (now.done[r]) {
                    continue;
                }
                int p = draw(pages.length);
                if (act(0, r, p) == NONE && now.depth[p] == 0 && act(1, r, p) != NONE && draw(100) < slips) {
                    now.says[p] = now.says[p] == 9 ? 0 : now.says[p] + 1;
                    now.memory[r][p] = now.says[p];
                }
            }
            act(4, NONE, NONE);
        }
        return now.day;
    }

    int undo() {
        if (past.isEmpty()) {
            return NONE;
        }
        now = past.remove(past.size() - 1);
        return past.size();
    }

    int log(int i, int what) {
        boolean is = now != null && i >= 0 && i < Math.min(60, now.log.size()) && what >= 0 && what < 4;
        return is ? now.log.get(i)[what] : HIDDEN;
    }

    // ---- plans

    int step(int plan, int i, int what) {
        boolean is = plan >= 0 && plan < plans.size() && i >= 0 && i < plans.get(plan).size() && what >= 0 && what < 3;
        return is ? plans.get(plan).get(i)[what] : HIDDEN;
    }

    int run(int plan, int what) {
        if (now == null || plan < 0 || plan >= plans.size() || what < 0 || what > 1) {
            return HIDDEN;
        }
        State s = now.copy();
        int done = 0;
        for (int[] step : plans.get(plan)) {
            if (act(s, step[0] == 3 ? 4 : step[0], step[1], step[2]) == NONE) {
                break;
            }
            done++;
        }
        int lost = 0;
        for (int p = 0; p < pages.length; p++) {
            lost += s.depth[p] == 0 ? 1 : 0;
        }
        return what == 1 ? lost : done == plans.get(plan).size() ? NONE : done;
    }

    int perform(int plan) {
        if (now == null || plan < 0 || plan >= plans.size()) {
            return NONE;
        }
        int done = 0;
        for (int[] step : plans.get(plan)) {
            if (act(step[0] == 3 ? 4 : step[0], step[1], step[2]) == NONE) {
                return done;
            }
            done++;
        }
        return done;
    }

    // ---- questions

    int loss(int r, int p) {
        return isReader(r) && there(now, p) ? all(losses(now, r, pages[p][0])) : NONE;
    }

    int left(int n) {
        if (now == null || n < 0 || n > 99) {
            return NONE;
        }
        State s = now.copy();
        while (n-- > 0) {
            nightOn(s);
        }
        int bits = 0;
        for (int p = 0; p < pages.length; p++) {
            bits |= there(s, p) ? 1 << p : 0;
        }
        return bits;
    }

    int last(int page) {
        for (int n = 0; n <= 99 && isPage(page); n++) {
            if ((left(n) >> page & 1) == 0) {
                return n;
            }
        }
        return NONE;
    }

    private int bestRow;
    private int bestLost;

    int order(int r, int book, int what) {
        if (!isReader(r) || what < 0 || what > 1) {
            return HIDDEN;
        }
        List<Integer> of = new ArrayList<>();
        for (int p = 0; p < pages.length; p++) {
            if (pages[p][2] == book && there(now, p)) {
                of.add(p);
            }
        }
        if (of.isEmpty() || of.size() > 5) {
            return HIDDEN;
        }
        bestRow = NONE;
        allRows(of, new ArrayList<>(), r);
        return bestRow == NONE ? HIDDEN : what == 0 ? bestRow : bestLost;
    }

    private void allRows(List<Integer> rest, List<Integer> row, int r) {
        for (Integer p : rest) {
            List<Integer> others = new ArrayList<>(rest);
            others.remove(p);
            List<Integer> longer = new ArrayList<>(row);
            longer.add(p);
            allRows(others, longer, r);
        }
        if (!rest.isEmpty()) {
            return;
        }
        State s = now.copy();
        if (s.done[r]) {
            nightOn(s);
        }
        int lost = 0;
        int number = 0;
        for (int p : row) {
            int more = act(s, 0, r, p);
            if (more == NONE) {
                return;
            }
            lost += more;
            number = number * 12 + p;
            nightOn(s);
        }
        if (bestRow == NONE || lost < bestLost || lost == bestLost && number < bestRow) {
            bestRow = number;
            bestLost = lost;
        }
    }

    private int shareMost;
    private int shareLoss;

    int share(int book, int what) {
        if (now == null || book < 0 || book > 4 || what < 0 || what > 1) {
            return NONE;
        }
        shareMost = 0;
        shareLoss = 0;
        allShares(book, 0, new boolean[readers.length], 0, 0);
        return what == 0 ? shareMost : shareLoss;
    }

    private void allShares(int book, int p, boolean[] busy, int many, int lost) {
        if (p == pages.length) {
            if (many > shareMost || many == shareMost && lost < shareLoss) {
                shareMost = many;
                shareLoss = lost;
            }
            return;
        }
        allShares(book, p + 1, busy, many, lost);
        for (int r = 0; r < readers.length; r++) {
            boolean may = pages[p][2] == book && there(now, p) && !busy[r];
            if (may && steps(now.cell[r], pages[p][0]) <= readers[r][2]) {
                busy[r] = true;
                allShares(book, p + 1, busy, many + 1, lost + loss(r, p));
                busy[r] = false;
            }
        }
    }

    int who(int book) {
        if (now == null || book < 0 || book > 4) {
            return NONE;
        }
        for (int size = 0; size <= readers.length; size++) {
            for (int set = 0; set < 1 << readers.length; set++) {
                boolean all = Integer.bitCount(set) == size;
                for (int p = 0; p < pages.length && all; p++) {
                    boolean known = pages[p][2] != book;
                    for (int r = 0; r < readers.length; r++) {
                        known |= (set & 1 << r) != 0 && now.memory[r][p] >= 0;
                    }
                    all = known;
                }
                if (all) {
                    return set;
                }
            }
        }
        return NONE;
    }

    private List<Integer> heard(int p) {
        List<Integer> words = new ArrayList<>();
        for (int r = 0; r < readers.length; r++) {
            if (now.memory[r][p] >= 0) {
                words.add(now.memory[r][p]);
            }
        }
        return words;
    }

    int first() {
        for (int depth = 1; depth <= 9; depth++) {
            for (int p = 0; p < pages.length; p++) {
                if (now.depth[p] == depth && !heard(p).isEmpty()) {
                    return p;
                }
            }
        }
        return NONE;
    }

    int placeFor(int page, int what) {
        if (!isPage(page) || what < 0 || what > 1) {
            return NONE;
        }
        int best = 0;
        int most = NONE;
        for (int c = 0; isCell(c); c++) {
            int nearest = 1000;
            for (int p = 0; p < pages.length; p++) {
                nearest = p != page && there(now, p) ? Math.min(nearest, steps(c, pages[p][0])) : nearest;
            }
            if (nearest < 1000 && nearest > most) {
                best = c;
                most = nearest;
            }
        }
        return what == 0 ? best : most;
    }

    int needy() {
        int bits = 0;
        for (int r = 0; r < readers.length; r++) {
            for (int p = 0; p < pages.length; p++) {
                bits |= pages[p][2] == readers[r][3] && now.memory[r][p] < 0 ? 1 << r : 0;
            }
        }
        return now == null ? NONE : bits;
    }

    int known() {
        int bits = 0;
        for (int p = 0; p < pages.length; p++) {
            bits |= heard(p).isEmpty() ? 0 : 1 << p;
        }
        return now == null ? NONE : bits;
    }

    int sure() {
        int bits = 0;
        for (int p = 0; p < pages.length; p++) {
            bits |= heard(p).size() > 1 && heard(p).stream().distinct().count() == 1 ? 1 << p : 0;
        }
        return now == null ? NONE : bits;
    }

    int split() {
        int bits = 0;
        for (int p = 0; p < pages.length; p++) {
            bits |= heard(p).stream().distinct().count() > 1 ? 1 << p : 0;
        }
        return now == null ? NONE : bits;
    }

    int likely(int page, int what) {
        if (!isPage(page) || what < 0 || what > 1) {
            return NONE;
        }
        List<Integer> words = heard(page);
        if (there(now, page)) {
            words.add(now.says[page]);
        }
        int best = NONE;
        int least = 1000;
        for (int word = 0; word < 10; word++) {
            int apart = 0;
            for (int other : words) {
                apart += Math.min(Math.floorMod(word - other, 10), Math.floorMod(other - word, 10));
            }
            if (apart < least) {
                best = word;
                least = apart;
            }
        }
        return words.isEmpty() ? NONE : what == 0 ? best : least;
    }

    int breathed(int page, int cell, int k, int i) {
        if (now == null || !there(now, page) || !isCell(cell) || k < 0 || k > 99) {
            return NONE;
        }
        List<Integer> sets = new ArrayList<>();
        for (int set = 0; set < 1 << readers.length; set++) {
            int together = 0;
            for (int r = 0; r < readers.length; r++) {
                together += (set & 1 << r) == 0 ? 0 : melt(now, r, page, cell, Integer.bitCount(set) - 1);
            }
            if (together == k) {
                sets.add(set);
            }
        }
        return i == NONE ? sets.size() : i >= 0 && i < sets.size() ? sets.get(i) : NONE;
    }

    int exam(int n, int m, int chance) {
        if (n < 1 || n > 12 || m < 0 || m > 13 || chance < 0 || chance > 100) {
            return NONE;
        }
        long[] parts = {1000000000L};
        for (int q = 1; q <= n; q++) {
            long[] next = new long[q + 1];
            for (int right = 0; right < q; right++) {
                long are = parts[right] * chance / 100;
                next[right + 1] += are;
                next[right] += parts[right] - are;
            }
            parts = next;
        }
        long sum = 0;
        for (int right = m; right <= n; right++) {
            sum += parts[right];
        }
        return (int) sum;
    }

    int learnt(int r) {
        int many = 0;
        for (int p = 0; p < pages.length && isReader(r); p++) {
            many += pages[p][2] == readers[r][3] && now.memory[r][p] == pages[p][3] ? 1 : 0;
        }
        return isReader(r) ? many : NONE;
    }

    int quiet(int r, int what) {
        if (!isReader(r) || what < 0 || what > 1) {
            return NONE;
        }
        int best = NONE;
        int least = 1000;
        for (int c = 0; isCell(c); c++) {
            int lost = all(losses(now, r, c));
            if (lost < least) {
                best = c;
                least = lost;
            }
        }
        return what == 0 ? best : least;
    }

    int far() {
        int far = 0;
        for (int p = 0; p < pages.length; p++) {
            for (int q = 0; q < pages.length; q++) {
                far = there(now, p) && there(now, q) ? Math.max(far, steps(pages[p][0], pages[q][0])) : far;
            }
        }
        return now == null ? NONE : far;
    }

    int image() {
        if (now == null) {
            return NONE;
        }
        image = now.copy();
        return now.day;
    }

    int back() {
        if (image == null) {
            return NONE;
        }
        now = image.copy();
        past.clear();
        return now.day;
    }

    int count(int what) {
        int lost = 0;
        int depth = 0;
        for (int p = 0; p < pages.length; p++) {
            lost += now.depth[p] == 0 ? 1 : 0;
            depth += now.depth[p];
        }
        int[] counts = {pages.length, readers.length, laws.size(), plans.size(), tape.length(), holds,
            now == null ? 0 : now.day, rule == null ? 0 : rule[0] * rule[1], slips, lost, depth,
            now == null ? 0 : Math.min(60, now.log.size()), past.size()};
        return what >= 0 && what < counts.length ? counts[what] : HIDDEN;
    }
}
