import java.util.Arrays;
import java.util.NoSuchElementException;

/** Snow libraries: pages cut in snow, readers who melt what they read, and what can be asked of both. */
public final class SnowBooks {
    public static final int NONE = -1;
    public static final int HIDDEN = -1000000;

    private static final int NO_SORT = -2;
    private static final int END = -1;
    private static final int MAX_TAPE = 240;
    private static final int MAX_PAGES = 12;
    private static final int MAX_READERS = 6;
    private static final int MAX_CELL = 29;
    private static final int BOOKS = 5;
    private static final int MAX_LAWS = 4;
    private static final int MAX_PLANS = 4;
    private static final int MAX_STEPS = 16;
    private static final int MAX_NESTED = 6;
    private static final int MAX_UNDO = 40;
    private static final int MAX_LOG = 60;
    private static final int MAX_ORDER = 5;
    private static final int MAX_CENTURIES = 60;
    private static final int MAX_NIGHTS = 99;
    private static final int MAX_QUESTIONS = 12;
    private static final int FULL_DEPTH = 9;
    private static final int WORDS = 10;

    private static final int READ = 0;
    private static final int RECUT = 1;
    private static final int GO = 2;
    private static final int TELL = 3;
    private static final int NIGHT = 4;
    private static final int HARE = 5;

    private final Tape tape;
    private final Hall hall;
    private final Hall nextHall;
    private final Winter winter;
    private final Finder finder;
    /** One more than can be kept: the first that is not in use takes the TAPE on trial. */
    private final Law[] laws;
    private final Plan[] plans;
    private final Snow now;
    private final Snow apart;
    private final Past past;
    private final Journal journal;
    private final Snow imageSnow;
    private final Journal imageJournal;
    private boolean imaged;
    private int lawCount;
    private int planCount;
    private int holding;
    private int slipChance;
    private long luck;

    public SnowBooks() {
        tape = new Tape();
        hall = new Hall(tape);
        nextHall = new Hall(tape);
        winter = new Winter(hall);
        finder = new Finder(hall, winter);
        laws = new Law[MAX_LAWS + 1];
        for (int i = 0; i < laws.length; i++) {
            laws[i] = new Law(tape);
        }
        plans = new Plan[MAX_PLANS + 1];
        for (int i = 0; i < plans.length; i++) {
            plans[i] = new Plan(tape);
        }
        now = new Snow();
        apart = new Snow();
        past = new Past();
        journal = new Journal();
        imageSnow = new Snow();
        imageJournal = new Journal();
        holding = NONE;
    }

    // ---- the tape and its texts

    public int feed(int a, int b, int c, int d, int e) {
        int more = signsIn(a) + signsIn(b) + signsIn(c) + signsIn(d) + signsIn(e);
        if (tape.size + more > MAX_TAPE) {
            return NONE;
        }
        tape.append(a);
        tape.append(b);
        tape.append(c);
        tape.append(d);
        tape.append(e);
        return tape.size;
    }

    private static int signsIn(int number) {
        int signs = 0;
        for (int shift = 24; shift >= 0; shift -= 8) {
            if ((number >>> shift & 255) != 0) {
                signs++;
            }
        }
        return signs;
    }

    public boolean end(int n) {
        if (n < 0 || n > tape.size) {
            return false;
        }
        tape.size = n;
        return true;
    }

    public int fault(int sort) {
        if (sort < 0 || sort > 2) {
            return NO_SORT;
        }
        return isWhole(sort) ? NONE : tape.wrong;
    }

    public int text(int sort) {
        switch (sort) {
            case 0:
                return isWhole(sort) ? openHall() : NONE;
            case 1:
                return lawCount < MAX_LAWS && isWhole(sort) ? keepLaw() : NONE;
            case 2:
                return planCount < MAX_PLANS && isWhole(sort) ? keepPlan() : NONE;
            default:
                return NONE;
        }
    }

    private boolean isWhole(int sort) {
        switch (sort) {
            case 0:
                return nextHall.parse();
            case 1:
                return lawCount < laws.length && laws[lawCount].parse();
            case 2:
                return planCount < plans.length && plans[planCount].parse();
            default:
                return false;
        }
    }

    private int openHall() {
        hall.takeFrom(nextHall);
        now.startIn(hall);
        past.clear();
        journal.clear();
        imaged = false;
        tape.size = 0;
        return hall.pages;
    }

    private int keepLaw() {
        tape.size = 0;
        lawCount++;
        return lawCount - 1;
    }

    private int keepPlan() {
        tape.size = 0;
        planCount++;
        return planCount - 1;
    }

    // ---- what is told of a hall

    public int hall(int what) {
        if (!hall.isOpen()) {
            return NONE;
        }
        switch (what) {
            case 0:
                return hall.width();
            case 1:
                return hall.height();
            case 2:
                return now.cold;
            case 3:
                return hall.coldFall();
            case 4:
                return hall.april();
            default:
                return NONE;
        }
    }

    public int page(int page, int what) {
        if (!hall.hasPage(page)) {
            return NONE;
        }
        switch (what) {
            case 0:
                return hall.pageCell(page);
            case 1:
                return now.depth[page];
            case 2:
                return hall.pageBook(page);
            case 3:
                return now.says[page];
            default:
                return NONE;
        }
    }

    public int reader(int reader, int what) throws NoSuchElementException {
        if (!hall.hasReader(reader) || what < 0 || what > 5) {
            throw new NoSuchElementException("no such READER, no such what");
        }
        switch (what) {
            case 0:
                return now.place[reader];
            case 1:
                return hall.breath(reader);
            case 2:
                return hall.speed(reader);
            case 3:
                return hall.need(reader);
            case 4:
                return now.hasDone(reader) ? 1 : 0;
            default:
                return now.pagesKnownBy(reader);
        }
    }

    public int memory(int reader, int page) {
        return hall.hasReader(reader) && hall.hasPage(page) ? now.recall(reader, page) : NONE;
    }

    public boolean law(int law) {
        if (law < NONE || law >= lawCount || law >= laws.length) {
            return false;
        }
        holding = law;
        winter.law = law < 0 ? null : laws[law];
        return true;
    }

    public boolean slips(int v) {
        if (v < 0 || v > 99 || v == slipChance) {
            return false;
        }
        slipChance = v;
        return true;
    }

    public int melt(int reader, int page, int cell) {
        if (!hall.hasReader(reader) || !hall.hasCell(cell) || !isThere(page)) {
            return NONE;
        }
        return winter.meltBy(now, reader, page, cell, winter.othersIn(now, reader, cell));
    }

    private boolean isThere(int page) {
        return hall.hasPage(page) && now.depth[page] > 0;
    }

    // ---- acts

    /** Does what winter.may allowed: kept for undo, and logged. */
    private void act(int kind, int who, int what) {
        past.keep(now);
        int lost = winter.carryOut(now, kind, who, what);
        journal.add(kind, who, what, lost);
    }

    public int read(int reader, int page) {
        if (!winter.may(now, READ, reader, page) || !hall.hasPage(page)) {
            return NONE;
        }
        act(READ, reader, page);
        return now.says[page];
    }

    public int recut(int reader, int page) {
        if (!winter.may(now, RECUT, reader, page) || !hall.hasPage(page)) {
            return NONE;
        }
        act(RECUT, reader, page);
        return now.says[page];
    }

    public int go(int reader, int cell) {
        if (!winter.may(now, GO, reader, cell) || !hall.hasReader(reader)) {
            return NONE;
        }
        int steps = hall.steps(now.place[reader], cell);
        act(GO, reader, cell);
        return steps;
    }

    public int tell(int reader, int other) {
        if (!winter.may(now, TELL, reader, other)) {
            return NONE;
        }
        int news = now.pagesKnownBy(reader) & ~now.pagesKnownBy(other);
        act(TELL, reader, other);
        return Integer.bitCount(news);
    }

    public int night() {
        if (!winter.may(now, NIGHT, NONE, NONE)) {
            return NONE;
        }
        act(NIGHT, NONE, NONE);
        return now.day;
    }

    public int hare(int cell) {
        if (!winter.may(now, HARE, NONE, cell)) {
            return NONE;
        }
        act(HARE, NONE, cell);
        return journal.entry(0, 3);
    }

    public int centuries(int n, long seed) {
        if (!hall.isOpen() || n < 1 || n > MAX_CENTURIES) {
            return NONE;
        }
        luck = seed;
        for (int i = 0; i < n; i++) {
            for (int r = 0; r < hall.readers; r++) {
                if (!now.hasDone(r)) {
                    tryPage(r, draw(hall.pages));
                }
            }
            act(NIGHT, NONE, NONE);
        }
        return now.day;
    }

    private void tryPage(int reader, int page) {
        if (winter.may(now, READ, reader, page)) {
            act(READ, reader, page);
        } else if (!isThere(page) && winter.may(now, RECUT, reader, page)) {
            act(RECUT, reader, page);
            // Drawn even if SLIPS is 0: the later draws hang on how many there were.
            if (draw(100) < slipChance) {
                now.slip(reader, page);
            }
        }
    }

    private int draw(int m) {
        luck = luck * 6364136223846793005L + 1442695040888963407L;
        return m < 1 ? 0 : (int) ((luck >>> 33) % m);
    }

    public int undo() {
        if (!past.giveBack(now)) {
            return NONE;
        }
        journal.dropLatest();
        return past.size;
    }

    public int log(int i, int what) {
        return journal.entry(i, what);
    }

    // ---- plans

    public int step(int plan, int i, int what) {
        return hasPlan(plan) ? plans[plan].tellStep(i, what) : HIDDEN;
    }

    private boolean hasPlan(int plan) {
        return plan >= 0 && plan < planCount && plan < plans.length;
    }

    public int run(int plan, int what) {
        if (!hall.isOpen() || !hasPlan(plan) || what < 0 || what > 1) {
            return HIDDEN;
        }
        Plan tried = plans[plan];
        apart.takeFrom(now);
        int done = 0;
        while (done < tried.size && mayStep(apart, tried, done)) {
            winter.carryOut(apart, tried.actOf(done), tried.readerOf(done), tried.targetOf(done));
            done++;
        }
        if (what == 1) {
            return hall.pages - Integer.bitCount(winter.pagesThere(apart));
        }
        return done == tried.size ? NONE : done;
    }

    private boolean mayStep(Snow snow, Plan plan, int i) {
        return winter.may(snow, plan.actOf(i), plan.readerOf(i), plan.targetOf(i));
    }

    public int perform(int plan) {
        if (!hall.isOpen() || !hasPlan(plan)) {
            return NONE;
        }
        Plan done = plans[plan];
        int steps = 0;
        while (steps < done.size && mayStep(now, done, steps)) {
            act(done.actOf(steps), done.readerOf(steps), done.targetOf(steps));
            steps++;
        }
        return steps;
    }

    // ---- what will be lost

    public int loss(int reader, int page) {
        if (!hall.hasReader(reader) || !isThere(page)) {
            return NONE;
        }
        return winter.lossIn(now, reader, hall.pageCell(page));
    }

    public int left(int n) {
        if (!hall.isOpen() || n < 0 || n > MAX_NIGHTS) {
            return NONE;
        }
        apart.takeFrom(now);
        for (int i = 0; i < n; i++) {
            winter.fallNight(apart);
        }
        return winter.pagesThere(apart);
    }

    public int last(int page) {
        if (!hall.hasPage(page)) {
            return NONE;
        }
        apart.takeFrom(now);
        for (int nights = 0; nights <= MAX_NIGHTS; nights++) {
            if (apart.depth[page] == 0) {
                return nights;
            }
            winter.fallNight(apart);
        }
        return NONE;
    }

    public int order(int reader, int book, int what) {
        if (!hall.hasReader(reader) || !isBook(book) || what < 0 || what > 1) {
            return HIDDEN;
        }
        if (!finder.findOrder(now, reader, book)) {
            return HIDDEN;
        }
        return what == 0 ? finder.bestRow : finder.bestLost;
    }

    private static boolean isBook(int book) {
        return book >= 0 && book < BOOKS;
    }

    public int share(int book, int what) {
        if (!hall.isOpen() || !isBook(book) || what < 0 || what > 1) {
            return NONE;
        }
        int readers = finder.findShare(now, book);
        return what == 0 ? Integer.bitCount(readers) : finder.shareLoss(readers);
    }

    public int who(int book) {
        return hall.isOpen() && isBook(book) ? finder.fewestWhoKnow(now, book) : NONE;
    }

    public int first() {
        int known = winter.pagesKnown(now);
        int best = NONE;
        for (int p = 0; p < hall.pages; p++) {
            boolean may = isThere(p) && (known >> p & 1) == 1;
            if (may && (best == NONE || now.depth[p] < now.depth[best])) {
                best = p;
            }
        }
        return best;
    }

    public int placeFor(int page, int what) {
        if (!hall.hasPage(page) || what < 0 || what > 1) {
            return NONE;
        }
        int best = 0;
        for (int cell = 1; cell < hall.cells(); cell++) {
            if (finder.stepsToOthers(now, page, cell) > finder.stepsToOthers(now, page, best)) {
                best = cell;
            }
        }
        return what == 0 ? best : finder.stepsToOthers(now, page, best);
    }

    // ---- joined memories

    public int needy() {
        if (!hall.isOpen()) {
            return NONE;
        }
        int needy = 0;
        for (int r = 0; r < hall.readers; r++) {
            if ((hall.pagesOf(hall.need(r)) & ~now.pagesKnownBy(r)) != 0) {
                needy |= 1 << r;
            }
        }
        return needy;
    }

    public int known() {
        return hall.isOpen() ? winter.pagesKnown(now) : NONE;
    }

    public int sure() {
        if (!hall.isOpen()) {
            return NONE;
        }
        int sure = 0;
        for (int p = 0; p < hall.pages; p++) {
            if (finder.knowers(now, p) >= 2 && !finder.isSplit(now, p)) {
                sure |= 1 << p;
            }
        }
        return sure;
    }

    public int split() {
        if (!hall.isOpen()) {
            return NONE;
        }
        int split = 0;
        for (int p = 0; p < hall.pages; p++) {
            if (finder.isSplit(now, p)) {
                split |= 1 << p;
            }
        }
        return split;
    }

    public int likely(int page, int what) {
        if (!hall.hasPage(page) || what < 0 || what > 1) {
            return NONE;
        }
        if (!isThere(page) && finder.knowers(now, page) == 0) {
            return NONE;
        }
        int best = 0;
        for (int word = 1; word < WORDS; word++) {
            if (finder.apartFrom(now, page, word) < finder.apartFrom(now, page, best)) {
                best = word;
            }
        }
        return what == 0 ? best : finder.apartFrom(now, page, best);
    }

    // ---- who breathed, what was learnt

    public int breathed(int page, int cell, int k, int i) {
        if (!isThere(page) || !hall.hasCell(cell) || k < 0 || k > 99 || i < NONE) {
            return NONE;
        }
        int found = 0;
        for (int set = 0; set < 1 << hall.readers; set++) {
            if (finder.meltOfSet(now, page, cell, set) == k) {
                if (found == i) {
                    return set;
                }
                found++;
            }
        }
        return i == NONE ? found : NONE;
    }

    public int exam(int n, int m, int chance) {
        boolean fits = n >= 1 && n <= MAX_QUESTIONS && m >= 0 && m <= MAX_QUESTIONS + 1;
        if (!fits || chance < 0 || chance > 100) {
            return NONE;
        }
        return finder.passing(n, m, chance);
    }

    public int learnt(int reader) {
        if (!hall.hasReader(reader)) {
            return NONE;
        }
        int learnt = 0;
        for (int p = 0; p < hall.pages; p++) {
            if (hall.pageBook(p) == hall.need(reader) && now.recall(reader, p) == hall.pageSays(p)) {
                learnt++;
            }
        }
        return learnt;
    }

    public int quiet(int reader, int what) {
        if (!hall.hasReader(reader) || what < 0 || what > 1) {
            return NONE;
        }
        int best = 0;
        int least = winter.lossIn(now, reader, 0);
        for (int cell = 1; cell < hall.cells(); cell++) {
            int lost = winter.lossIn(now, reader, cell);
            if (lost < least) {
                best = cell;
                least = lost;
            }
        }
        return what == 0 ? best : least;
    }

    public int far() {
        if (!hall.isOpen()) {
            return NONE;
        }
        int far = 0;
        for (int p = 0; p < hall.pages; p++) {
            for (int q = 0; q < p; q++) {
                if (isThere(p) && isThere(q)) {
                    far = Math.max(far, hall.steps(hall.pageCell(p), hall.pageCell(q)));
                }
            }
        }
        return far;
    }

    // ---- images and counts

    public int image() {
        if (!hall.isOpen()) {
            return NONE;
        }
        imageSnow.takeFrom(now);
        imageJournal.takeFrom(journal);
        imaged = true;
        return now.day;
    }

    public int back() {
        if (!imaged) {
            return NONE;
        }
        now.takeFrom(imageSnow);
        journal.takeFrom(imageJournal);
        past.clear();
        return now.day;
    }

    public int count(int what) {
        switch (what) {
            case 0:
                return hall.pages;
            case 1:
                return hall.readers;
            case 2:
                return lawCount;
            case 3:
                return planCount;
            case 4:
                return tape.size;
            case 5:
                return holding;
            case 6:
                return now.day;
            case 7:
                return hall.cells();
            case 8:
                return slipChance;
            case 9:
                return hall.pages - Integer.bitCount(winter.pagesThere(now));
            case 10:
                return winter.depthInAll(now);
            case 11:
                return journal.told();
            case 12:
                return past.size;
            default:
                return HIDDEN;
        }
    }

    /** The TAPE, and a place on it that goes over blanks and remembers what was wrong. */
    private static final class Tape {
        final int[] signs = new int[MAX_TAPE];
        int size;
        int at;
        int wrong = NONE;

        void append(int number) {
            for (int shift = 24; shift >= 0; shift -= 8) {
                int sign = number >>> shift & 255;
                if (sign != 0 && size < signs.length) {
                    signs[size] = sign;
                    size++;
                }
            }
        }

        void rewind() {
            at = 0;
            wrong = NONE;
        }

        int next() {
            while (at < size && signs[at] == ' ') {
                at++;
            }
            return at < size ? signs[at] : END;
        }

        boolean goOver(int sign) {
            if (next() != sign) {
                return false;
            }
            at++;
            return true;
        }

        boolean expect(int sign) {
            if (next() != sign) {
                return wrongHere();
            }
            at++;
            return true;
        }

        boolean wrongHere() {
            wrong = at;
            return false;
        }

        static boolean isDigit(int sign) {
            return sign >= '0' && sign <= '9';
        }

        /** The number that stands next; NONE if it is wrong. */
        int number(int digits, int low, int high) {
            if (!isDigit(next())) {
                wrongHere();
                return NONE;
            }
            int value = 0;
            int told = 0;
            while (at < size && isDigit(signs[at])) {
                if (told == digits) {
                    wrongHere();
                    return NONE;
                }
                value = value * 10 + signs[at] - '0';
                told++;
                at++;
            }
            if (value < low || value > high) {
                wrong = at - 1;
                return NONE;
            }
            return value;
        }

        /** Which of these letters stands next; NONE: no one of them. */
        int nextOf(String letters) {
            int sign = next();
            return sign < 0 ? NONE : letters.indexOf((char) sign);
        }
    }

    /** A HALL as it was told: what never changes in it, and how it began. */
    private static final class Hall {
        private static final int RULES = 0;
        private static final int PAGE = 1;
        private static final int READER = 2;
        private static final int ITEMS = 4;
        private static final String RULE_LETTERS = "whcfa";
        private static final String PAGE_LETTERS = "cdbt";
        private static final String READER_LETTERS = "cbvn";
        private static final int[] RULE_LOW = {1, 1, 0, 0, 1};
        private static final int[] RULE_HIGH = {6, 5, 99, 9, 99};
        private static final int[] RULE_USUAL = {5, 4, 40, 1, 60};
        private static final int[] PAGE_LOW = {0, 1, 0, 0};
        private static final int[] PAGE_HIGH = {29, 9, 4, 9};
        private static final int[] PAGE_USUAL = {0, 5, 0, 0};
        private static final int[] READER_LOW = {0, 0, 0, 0};
        private static final int[] READER_HIGH = {29, 9, 9, 4};
        private static final int[] READER_USUAL = {0, 3, 3, 0};

        final Tape tape;
        final int[] rules = new int[5];
        final int[] pageItems = new int[MAX_PAGES * ITEMS];
        final int[] readerItems = new int[MAX_READERS * ITEMS];
        int pages;
        int readers;
        boolean ruled;

        Hall(Tape tape) {
            this.tape = tape;
        }

        void takeFrom(Hall other) {
            System.arraycopy(other.rules, 0, rules, 0, rules.length);
            System.arraycopy(other.pageItems, 0, pageItems, 0, pageItems.length);
            System.arraycopy(other.readerItems, 0, readerItems, 0, readerItems.length);
            pages = other.pages;
            readers = other.readers;
        }

        boolean isOpen() {
            return pages > 0;
        }

        int width() {
            return rules[0];
        }

        int height() {
            return rules[1];
        }

        int coldAtFirst() {
            return rules[2];
        }

        int coldFall() {
            return rules[3];
        }

        int april() {
            return rules[4];
        }

        int cells() {
            return rules[0] * rules[1];
        }

        boolean hasCell(int cell) {
            return cell >= 0 && cell < cells();
        }

        boolean hasPage(int page) {
            return page >= 0 && page < pages;
        }

        boolean hasReader(int reader) {
            return reader >= 0 && reader < readers;
        }

        private int pageItem(int page, int item) {
            boolean fits = page >= 0 && page < MAX_PAGES && page < pages && item >= 0 && item < ITEMS;
            return fits ? pageItems[page * ITEMS + item] : NONE;
        }

        private int readerItem(int reader, int item) {
            boolean fits = reader >= 0 && reader < MAX_READERS && reader < readers && item >= 0 && item < ITEMS;
            return fits ? readerItems[reader * ITEMS + item] : NONE;
        }

        int pageCell(int page) {
            return pageItem(page, 0);
        }

        int pageDepth(int page) {
            return pageItem(page, 1);
        }

        int pageBook(int page) {
            return pageItem(page, 2);
        }

        int pageSays(int page) {
            return pageItem(page, 3);
        }

        int readerCell(int reader) {
            return readerItem(reader, 0);
        }

        int breath(int reader) {
            return readerItem(reader, 1);
        }

        int speed(int reader) {
            return readerItem(reader, 2);
        }

        int need(int reader) {
            return readerItem(reader, 3);
        }

        int pagesOf(int book) {
            int bits = 0;
            for (int p = 0; p < pages; p++) {
                if (pageBook(p) == book) {
                    bits |= 1 << p;
                }
            }
            return bits;
        }

        int steps(int a, int b) {
            int width = width();
            if (width < 1) {
                return 0;
            }
            return Math.abs(a / width - b / width) + Math.abs(a % width - b % width);
        }

        /** Reads the TAPE as a HALL; false: the TAPE knows where it is wrong. */
        boolean parse() {
            pages = 0;
            readers = 0;
            ruled = false;
            System.arraycopy(RULE_USUAL, 0, rules, 0, rules.length);
            tape.rewind();
            boolean more = true;
            for (int i = 0; more && i <= MAX_TAPE; i++) {
                if (!clause()) {
                    return false;
                }
                more = tape.goOver(';');
            }
            return tape.next() == END && isPeopled() && cellsFit() || tape.wrongHere();
        }

        private boolean clause() {
            switch (tape.next()) {
                case 's':
                    return ruled ? tape.wrongHere() : ruleClause();
                case 'p':
                    return pages < MAX_PAGES ? pageClause() : tape.wrongHere();
                case 'r':
                    return readers < MAX_READERS ? readerClause() : tape.wrongHere();
                default:
                    return tape.wrongHere();
            }
        }

        private boolean ruleClause() {
            ruled = true;
            return items(RULES, rules, 0);
        }

        private boolean pageClause() {
            int from = pages * ITEMS;
            System.arraycopy(PAGE_USUAL, 0, pageItems, from, ITEMS);
            pages++;
            return items(PAGE, pageItems, from);
        }

        private boolean readerClause() {
            int from = readers * ITEMS;
            System.arraycopy(READER_USUAL, 0, readerItems, from, ITEMS);
            readers++;
            return items(READER, readerItems, from);
        }

        private boolean items(int kind, int[] row, int from) {
            String letters = kind == RULES ? RULE_LETTERS : kind == PAGE ? PAGE_LETTERS : READER_LETTERS;
            int[] low = kind == RULES ? RULE_LOW : kind == PAGE ? PAGE_LOW : READER_LOW;
            int[] high = kind == RULES ? RULE_HIGH : kind == PAGE ? PAGE_HIGH : READER_HIGH;
            int seen = 0;
            tape.at++;
            for (int i = 0; i <= letters.length(); i++) {
                int item = tape.nextOf(letters);
                if (item < 0 || item >= low.length) {
                    return true;
                }
                if ((seen >> item & 1) == 1) {
                    return tape.wrongHere();
                }
                seen |= 1 << item;
                tape.at++;
                int value = tape.number(2, low[item], high[item]);
                if (value < 0 || from + item >= row.length) {
                    return false;
                }
                row[from + item] = value;
            }
            return true;
        }

        private boolean isPeopled() {
            return pages > 0 && readers > 0;
        }

        /** Asked at the end alone: the s may stand behind those whose CELLS it bounds. */
        private boolean cellsFit() {
            for (int p = 0; p < pages; p++) {
                if (!hasCell(pageCell(p))) {
                    return false;
                }
            }
            for (int r = 0; r < readers; r++) {
                if (!hasCell(readerCell(r))) {
                    return false;
                }
            }
            return true;
        }
    }

    /** A LAW: its signs in the order in which they are worked out, operands ahead of their sign. */
    private static final class Law {
        private static final int NUMBER = '0';
        private static final int LETTER = 'a';
        private static final int WHEN = '?';
        private static final int ANSWER = ';';
        private static final int MAX_CODE = MAX_TAPE + 2;
        private static final int BOUND = 1000000;
        private static final String LETTERS = "bcdsnt";

        final Tape tape;
        final int[] code = new int[MAX_CODE];
        final int[] value = new int[MAX_CODE];
        final int[] stack = new int[MAX_CODE];
        int size;

        Law(Tape tape) {
            this.tape = tape;
        }

        /** Reads the TAPE as a LAW; false: the TAPE knows where it is wrong. */
        boolean parse() {
            size = 0;
            tape.rewind();
            boolean more = true;
            for (int i = 0; more && i <= MAX_TAPE; i++) {
                if (!clause()) {
                    return false;
                }
                more = tape.goOver(';');
            }
            return tape.next() == END || tape.wrongHere();
        }

        private void emit(int sign, int number) {
            if (size < code.length) {
                code[size] = sign;
                value[size] = number;
                size++;
            }
        }

        private boolean clause() {
            if (!tape.expect('y') || !tape.expect(':')) {
                return false;
            }
            int sign = tape.next();
            // A SUM ahead may be the answer or the start of a CONDITION: only what follows it tells.
            boolean begun = sign != '!' && sign != '(';
            if (begun && !sum(0)) {
                return false;
            }
            if (!begun || isComparison(tape.next())) {
                if (!condition(0, begun) || !tape.expect('?')) {
                    return false;
                }
                emit(WHEN, 0);
                if (!sum(0)) {
                    return false;
                }
            }
            emit(ANSWER, 0);
            return true;
        }

        private static boolean isComparison(int sign) {
            return sign == '=' || sign == '<' || sign == '>';
        }

        /** Begun: the first SUM of it has been read. */
        private boolean condition(int depth, boolean begun) {
            if (!truth(depth, begun)) {
                return false;
            }
            for (int i = 0; i <= MAX_TAPE && tape.goOver('|'); i++) {
                if (!truth(depth, false)) {
                    return false;
                }
                emit('|', 0);
            }
            return true;
        }

        private boolean truth(int depth, boolean begun) {
            if (!unit(depth, begun)) {
                return false;
            }
            for (int i = 0; i <= MAX_TAPE && tape.goOver('&'); i++) {
                if (!unit(depth, false)) {
                    return false;
                }
                emit('&', 0);
            }
            return true;
        }

        private boolean unit(int depth, boolean begun) {
            int sign = tape.next();
            if (!begun && (sign == '!' || sign == '(')) {
                return depth < MAX_NESTED ? nestedUnit(depth, sign) : tape.wrongHere();
            }
            if (!begun && !sum(depth)) {
                return false;
            }
            int comparison = tape.next();
            if (!isComparison(comparison)) {
                return tape.wrongHere();
            }
            tape.at++;
            if (!sum(depth)) {
                return false;
            }
            emit(comparison, 0);
            return true;
        }

        private boolean nestedUnit(int depth, int sign) {
            tape.at++;
            if (sign == '(') {
                return condition(depth + 1, false) && tape.expect(')');
            }
            if (!unit(depth + 1, false)) {
                return false;
            }
            emit('!', 0);
            return true;
        }

        private boolean sum(int depth) {
            if (!term(depth)) {
                return false;
            }
            int sign = tape.next();
            for (int i = 0; i <= MAX_TAPE && (sign == '+' || sign == '-'); i++) {
                tape.at++;
                if (!term(depth)) {
                    return false;
                }
                emit(sign, 0);
                sign = tape.next();
            }
            return true;
        }

        private boolean term(int depth) {
            if (!atom(depth)) {
                return false;
            }
            int sign = tape.next();
            for (int i = 0; i <= MAX_TAPE && (sign == '*' || sign == '/'); i++) {
                tape.at++;
                if (!atom(depth)) {
                    return false;
                }
                emit(sign, 0);
                sign = tape.next();
            }
            return true;
        }

        private boolean atom(int depth) {
            int letter = tape.nextOf(LETTERS);
            if (letter >= 0) {
                tape.at++;
                emit(LETTER, letter);
                return true;
            }
            if (tape.next() == '[') {
                if (depth >= MAX_NESTED) {
                    return tape.wrongHere();
                }
                tape.at++;
                return sum(depth + 1) && tape.expect(']');
            }
            int number = tape.number(4, 0, 9999);
            emit(NUMBER, number);
            return number >= 0;
        }

        /** The SUM of the first CLAUSE that holds, for letters by the order of LETTERS. */
        int worth(int[] letters) {
            int top = 0;
            boolean passing = false;
            for (int i = 0; i < size && i < code.length; i++) {
                int sign = code[i];
                if (passing) {
                    passing = sign != ANSWER;
                } else if (sign == ANSWER) {
                    return top > 0 && top <= stack.length ? stack[top - 1] : 0;
                } else if (sign == WHEN) {
                    top--;
                    passing = top < 0 || stack[top] == 0;
                    top = 0;
                } else if (top >= stack.length) {
                    return 0;
                } else if (sign == NUMBER) {
                    stack[top] = value[i];
                    top++;
                } else if (sign == LETTER) {
                    stack[top] = value[i] >= 0 && value[i] < letters.length ? letters[value[i]] : 0;
                    top++;
                } else if (sign == '!' && top > 0) {
                    stack[top - 1] = 1 - stack[top - 1];
                } else if (top > 1) {
                    top--;
                    stack[top - 1] = joined(sign, stack[top - 1], stack[top]);
                }
            }
            return 0;
        }

        private static int joined(int sign, int a, int b) {
            long worth = 0;
            switch (sign) {
                case '+':
                    worth = (long) a + b;
                    break;
                case '-':
                    worth = (long) a - b;
                    break;
                case '*':
                    worth = (long) a * b;
                    break;
                case '/':
                    worth = b == 0 ? 0 : a / b;
                    break;
                case '=':
                    worth = a == b ? 1 : 0;
                    break;
                case '<':
                    worth = a < b ? 1 : 0;
                    break;
                case '>':
                    worth = a > b ? 1 : 0;
                    break;
                case '&':
                    worth = a & b;
                    break;
                default:
                    worth = a | b;
                    break;
            }
            // No Math here: it would be the ninth call within one another.
            return worth > BOUND ? BOUND : worth < -BOUND ? -BOUND : (int) worth;
        }
    }

    /** A PLAN: its STEPS. */
    private static final class Plan {
        private static final String KINDS = "rcgn";
        private static final int NIGHT_STEP = 3;
        private static final int GO_STEP = 2;

        final Tape tape;
        final int[] kinds = new int[MAX_STEPS];
        final int[] readers = new int[MAX_STEPS];
        final int[] targets = new int[MAX_STEPS];
        int size;

        Plan(Tape tape) {
            this.tape = tape;
        }

        /** Reads the TAPE as a PLAN; false: the TAPE knows where it is wrong. */
        boolean parse() {
            size = 0;
            tape.rewind();
            boolean more = true;
            for (int i = 0; more && i < MAX_STEPS; i++) {
                if (!stepText()) {
                    return false;
                }
                // A ; ahead of a STEP too many is left standing, and wrong then.
                more = size < MAX_STEPS && tape.goOver(';');
            }
            return tape.next() == END || tape.wrongHere();
        }

        private boolean stepText() {
            int kind = tape.nextOf(KINDS);
            if (kind < 0) {
                return tape.wrongHere();
            }
            tape.at++;
            if (kind == NIGHT_STEP) {
                return add(kind, NONE, NONE);
            }
            int reader = tape.next() - '0';
            if (reader < 0 || reader > 9) {
                return tape.wrongHere();
            }
            tape.at++;
            int target = tape.number(2, 0, kind == GO_STEP ? MAX_CELL : MAX_PAGES - 1);
            return target >= 0 && add(kind, reader, target);
        }

        private boolean add(int kind, int reader, int target) {
            if (size >= MAX_STEPS) {
                return false;
            }
            kinds[size] = kind;
            readers[size] = reader;
            targets[size] = target;
            size++;
            return true;
        }

        private boolean hasStep(int i) {
            return i >= 0 && i < size && i < MAX_STEPS;
        }

        int tellStep(int i, int what) {
            if (!hasStep(i)) {
                return HIDDEN;
            }
            switch (what) {
                case 0:
                    return kinds[i];
                case 1:
                    return readers[i];
                case 2:
                    return targets[i];
                default:
                    return HIDDEN;
            }
        }

        /** READ, RECUT, GO are numbered as in a PLAN; the NIGHT is not. */
        int actOf(int i) {
            if (!hasStep(i)) {
                return NONE;
            }
            return kinds[i] == NIGHT_STEP ? NIGHT : kinds[i];
        }

        int readerOf(int i) {
            return hasStep(i) ? readers[i] : NONE;
        }

        int targetOf(int i) {
            return hasStep(i) ? targets[i] : NONE;
        }
    }

    /** All of a HALL that changes by ACTS. */
    private static final class Snow {
        final int[] depth = new int[MAX_PAGES];
        final int[] says = new int[MAX_PAGES];
        final int[] place = new int[MAX_READERS];
        final int[] memories = new int[MAX_READERS * MAX_PAGES];
        int deeds;
        int cold;
        int day;

        void takeFrom(Snow other) {
            System.arraycopy(other.depth, 0, depth, 0, depth.length);
            System.arraycopy(other.says, 0, says, 0, says.length);
            System.arraycopy(other.place, 0, place, 0, place.length);
            System.arraycopy(other.memories, 0, memories, 0, memories.length);
            deeds = other.deeds;
            cold = other.cold;
            day = other.day;
        }

        void startIn(Hall hall) {
            for (int p = 0; p < MAX_PAGES; p++) {
                depth[p] = hall.hasPage(p) ? hall.pageDepth(p) : 0;
                says[p] = hall.hasPage(p) ? hall.pageSays(p) : 0;
            }
            for (int r = 0; r < MAX_READERS; r++) {
                place[r] = hall.hasReader(r) ? hall.readerCell(r) : 0;
            }
            Arrays.fill(memories, NONE);
            deeds = 0;
            cold = hall.coldAtFirst();
            day = 0;
        }

        boolean hasDone(int reader) {
            return (deeds >> reader & 1) == 1;
        }

        private static boolean isMemory(int reader, int page) {
            return reader >= 0 && reader < MAX_READERS && page >= 0 && page < MAX_PAGES;
        }

        int recall(int reader, int page) {
            return isMemory(reader, page) ? memories[reader * MAX_PAGES + page] : NONE;
        }

        void learn(int reader, int page, int word) {
            if (isMemory(reader, page)) {
                memories[reader * MAX_PAGES + page] = word;
            }
        }

        int pagesKnownBy(int reader) {
            int bits = 0;
            for (int p = 0; p < MAX_PAGES; p++) {
                if (recall(reader, p) != NONE) {
                    bits |= 1 << p;
                }
            }
            return bits;
        }

        int lose(int page, int most) {
            if (page < 0 || page >= MAX_PAGES) {
                return 0;
            }
            int lost = Math.min(depth[page], most);
            depth[page] -= lost;
            return lost;
        }

        void slip(int reader, int page) {
            if (isMemory(reader, page)) {
                says[page] = (says[page] + 1) % WORDS;
                learn(reader, page, says[page]);
            }
        }
    }

    /** What can be done in a HALL and what melts by it, on any Snow: so that it can be tried apart. */
    private static final class Winter {
        final Hall hall;
        final int[] letters = new int[6];
        /** The LAW that holds; null: none. */
        Law law;

        Winter(Hall hall) {
            this.hall = hall;
        }

        int othersIn(Snow snow, int reader, int cell) {
            int others = 0;
            for (int r = 0; r < hall.readers; r++) {
                if (r != reader && snow.place[r] == cell) {
                    others++;
                }
            }
            return others;
        }

        /** MELT of a PAGE that is there by a READER in a CELL with so many others. */
        int meltBy(Snow snow, int reader, int page, int cell, int others) {
            int steps = hall.steps(cell, hall.pageCell(page));
            if (steps > 1 || !hall.hasPage(page)) {
                return 0;
            }
            int worth = hall.breath(reader) - snow.cold / 20 + 1 - steps;
            if (law != null) {
                letters[0] = hall.breath(reader);
                letters[1] = snow.cold;
                letters[2] = snow.depth[page];
                letters[3] = steps;
                letters[4] = others;
                letters[5] = snow.day;
                worth = law.worth(letters);
            }
            return Math.max(0, Math.min(9, worth));
        }

        /** DEPTH lost in all, if a READER breathed in a CELL. */
        int lossIn(Snow snow, int reader, int cell) {
            int others = othersIn(snow, reader, cell);
            int lost = 0;
            for (int p = 0; p < hall.pages; p++) {
                if (snow.depth[p] > 0) {
                    lost += Math.min(snow.depth[p], meltBy(snow, reader, p, cell, others));
                }
            }
            return lost;
        }

        private int breathe(Snow snow, int reader, int cell) {
            int others = othersIn(snow, reader, cell);
            int lost = 0;
            for (int p = 0; p < hall.pages; p++) {
                if (snow.depth[p] > 0) {
                    lost += snow.lose(p, meltBy(snow, reader, p, cell, others));
                }
            }
            return lost;
        }

        boolean reaches(Snow snow, int reader, int cell) {
            return hall.hasReader(reader) && hall.steps(snow.place[reader], cell) <= hall.speed(reader);
        }

        boolean may(Snow snow, int kind, int who, int what) {
            if (kind == NIGHT) {
                return hall.isOpen();
            }
            if (kind == HARE) {
                return hall.hasCell(what);
            }
            if (!hall.hasReader(who) || snow.hasDone(who)) {
                return false;
            }
            switch (kind) {
                case READ:
                    return hall.hasPage(what) && snow.depth[what] > 0 && reaches(snow, who, hall.pageCell(what));
                case RECUT:
                    return hall.hasPage(what) && snow.recall(who, what) != NONE
                            && reaches(snow, who, hall.pageCell(what));
                case GO:
                    return hall.hasCell(what) && snow.place[who] != what && reaches(snow, who, what);
                case TELL:
                    return hall.hasReader(what) && what != who && snow.place[what] == snow.place[who];
                default:
                    return false;
            }
        }

        /** Does an ACT that may be done: DEPTH lost by it. */
        int carryOut(Snow snow, int kind, int who, int what) {
            if (kind == NIGHT) {
                return fallNight(snow);
            }
            if (kind == HARE) {
                return nibble(snow, what);
            }
            if (!hall.hasReader(who)) {
                return 0;
            }
            snow.deeds |= 1 << who;
            if (kind == TELL) {
                passOn(snow, who, what);
                return 0;
            }
            if (kind == GO) {
                snow.place[who] = what;
                return 0;
            }
            if (!hall.hasPage(what)) {
                return 0;
            }
            snow.place[who] = hall.pageCell(what);
            if (kind == RECUT) {
                snow.depth[what] = FULL_DEPTH;
                snow.says[what] = snow.recall(who, what);
                return 0;
            }
            snow.learn(who, what, snow.says[what]);
            return breathe(snow, who, snow.place[who]);
        }

        private void passOn(Snow snow, int reader, int other) {
            for (int p = 0; p < hall.pages; p++) {
                if (snow.recall(other, p) == NONE) {
                    snow.learn(other, p, snow.recall(reader, p));
                }
            }
        }

        private int nibble(Snow snow, int cell) {
            int lost = 0;
            for (int p = 0; p < hall.pages; p++) {
                if (hall.pageCell(p) == cell) {
                    lost += snow.lose(p, 3);
                }
            }
            return lost;
        }

        int fallNight(Snow snow) {
            snow.day++;
            snow.cold = Math.max(0, snow.cold - hall.coldFall());
            snow.deeds = 0;
            if (snow.cold > 0 && snow.day < hall.april()) {
                return 0;
            }
            int lost = 0;
            for (int p = 0; p < hall.pages; p++) {
                lost += snow.lose(p, 1);
            }
            return lost;
        }

        int pagesThere(Snow snow) {
            int bits = 0;
            for (int p = 0; p < hall.pages; p++) {
                if (snow.depth[p] > 0) {
                    bits |= 1 << p;
                }
            }
            return bits;
        }

        int pagesKnown(Snow snow) {
            int bits = 0;
            for (int r = 0; r < hall.readers; r++) {
                bits |= snow.pagesKnownBy(r);
            }
            return bits;
        }

        int depthInAll(Snow snow) {
            int depth = 0;
            for (int p = 0; p < hall.pages; p++) {
                depth += snow.depth[p];
            }
            return depth;
        }
    }

    /** The LOG. Behind the latest 60 it remembers 40 more, which come forth again when ACTS are undone. */
    private static final class Journal {
        private static final int ROWS = MAX_LOG + MAX_UNDO;
        private static final int ITEMS = 4;

        final int[] rows = new int[ROWS * ITEMS];
        int size;
        /** The row that the next ACT takes. */
        int top;

        void clear() {
            size = 0;
            top = 0;
        }

        void takeFrom(Journal other) {
            System.arraycopy(other.rows, 0, rows, 0, rows.length);
            size = other.size;
            top = other.top;
        }

        void add(int kind, int who, int what, int lost) {
            int from = top * ITEMS;
            if (from < 0 || from + ITEMS > rows.length) {
                return;
            }
            rows[from] = kind;
            rows[from + 1] = who;
            rows[from + 2] = what;
            rows[from + 3] = lost;
            top = (top + 1) % ROWS;
            size = Math.min(ROWS, size + 1);
        }

        void dropLatest() {
            if (size > 0) {
                size--;
                top = (top + ROWS - 1) % ROWS;
            }
        }

        int told() {
            return Math.min(size, MAX_LOG);
        }

        int entry(int i, int what) {
            if (i < 0 || i >= told() || what < 0 || what >= ITEMS) {
                return HIDDEN;
            }
            int row = (top + ROWS - 1 - i) % ROWS;
            return row < 0 ? HIDDEN : rows[row * ITEMS + what];
        }
    }

    /** How it was ahead of the latest ACTS. */
    private static final class Past {
        final Snow[] rows = new Snow[MAX_UNDO];
        int size;
        int top;

        Past() {
            for (int i = 0; i < rows.length; i++) {
                rows[i] = new Snow();
            }
        }

        void clear() {
            size = 0;
            top = 0;
        }

        void keep(Snow now) {
            if (top < 0 || top >= rows.length) {
                return;
            }
            rows[top].takeFrom(now);
            top = (top + 1) % MAX_UNDO;
            size = Math.min(MAX_UNDO, size + 1);
        }

        boolean giveBack(Snow now) {
            int latest = (top + MAX_UNDO - 1) % MAX_UNDO;
            if (size < 1 || latest < 0) {
                return false;
            }
            now.takeFrom(rows[latest]);
            top = latest;
            size--;
            return true;
        }
    }

    /** What takes a search: by which order, who should, who could have. */
    private static final class Finder {
        private static final int SETS = 1 << MAX_READERS;
        private static final int NO_WAY = 1000000;
        private static final int PARTS = 1000000000;

        final Hall hall;
        final Winter winter;
        /** The Snow behind each READ of the order that is tried. */
        final Snow[] days = new Snow[MAX_ORDER + 1];
        /** The least LOSS together by the set of READERS who get a PAGE; NO_WAY: they can't all. */
        final int[] leastLoss = new int[SETS];
        /** LOSS of the PAGE that is shared out, by the READER who gets it. */
        final int[] lossBy = new int[MAX_READERS];
        final long[] parts = new long[MAX_QUESTIONS + 2];
        int bestRow;
        int bestLost;

        Finder(Hall hall, Winter winter) {
            this.hall = hall;
            this.winter = winter;
            for (int i = 0; i < days.length; i++) {
                days[i] = new Snow();
            }
        }

        boolean findOrder(Snow now, int reader, int book) {
            int wanted = winter.pagesThere(now) & hall.pagesOf(book);
            if (wanted == 0 || Integer.bitCount(wanted) > MAX_ORDER) {
                return false;
            }
            bestLost = NONE;
            bestRow = NONE;
            days[0].takeFrom(now);
            if (now.hasDone(reader)) {
                winter.fallNight(days[0]);
            }
            tryRows(0, reader, wanted, 0, 0);
            return bestLost != NONE;
        }

        /** PAGES are tried rising, so the first of several rows that lose as little is the least. */
        private void tryRows(int depth, int reader, int wanted, int row, int lost) {
            if (bestLost != NONE && lost >= bestLost) {
                return;
            }
            if (wanted == 0) {
                bestLost = lost;
                bestRow = row;
                return;
            }
            if (depth < 0 || depth + 1 >= days.length) {
                return;
            }
            for (int p = 0; p < hall.pages; p++) {
                if ((wanted >> p & 1) == 1 && winter.may(days[depth], READ, reader, p)) {
                    Snow next = days[depth + 1];
                    next.takeFrom(days[depth]);
                    int more = winter.carryOut(next, READ, reader, p);
                    winter.fallNight(next);
                    tryRows(depth + 1, reader, wanted & ~(1 << p), row * MAX_PAGES + p, lost + more);
                }
            }
        }

        /** The set of READERS who get a PAGE each; leastLoss tells what they lose together. */
        int findShare(Snow now, int book) {
            Arrays.fill(leastLoss, NO_WAY);
            leastLoss[0] = 0;
            int shared = winter.pagesThere(now) & hall.pagesOf(book);
            for (int p = 0; p < hall.pages; p++) {
                if ((shared >> p & 1) == 1) {
                    shareOut(now, hall.pageCell(p));
                }
            }
            int best = 0;
            for (int set = 1; set < leastLoss.length; set++) {
                int more = Integer.bitCount(set) - Integer.bitCount(best);
                if (leastLoss[set] < NO_WAY && (more > 0 || more == 0 && leastLoss[set] < leastLoss[best])) {
                    best = set;
                }
            }
            return best;
        }

        /** Sets falling: those without the READER still stand as they were ahead of this PAGE. */
        private void shareOut(Snow now, int cell) {
            for (int r = 0; r < lossBy.length; r++) {
                lossBy[r] = winter.reaches(now, r, cell) ? winter.lossIn(now, r, cell) : NO_WAY;
            }
            for (int set = leastLoss.length - 1; set > 0; set--) {
                for (int r = 0; r < lossBy.length; r++) {
                    int without = set & ~(1 << r);
                    if (without != set) {
                        leastLoss[set] = Math.min(leastLoss[set], leastLoss[without] + lossBy[r]);
                    }
                }
            }
        }

        int shareLoss(int readers) {
            return readers >= 0 && readers < leastLoss.length ? leastLoss[readers] : NONE;
        }

        int fewestWhoKnow(Snow now, int book) {
            int all = hall.pagesOf(book);
            int best = NONE;
            for (int set = 0; set < 1 << hall.readers; set++) {
                boolean fewer = best == NONE || Integer.bitCount(set) < Integer.bitCount(best);
                if (fewer && (all & ~knownBySet(now, set)) == 0) {
                    best = set;
                }
            }
            return best;
        }

        private int knownBySet(Snow now, int set) {
            int bits = 0;
            for (int r = 0; r < hall.readers; r++) {
                if ((set >> r & 1) == 1) {
                    bits |= now.pagesKnownBy(r);
                }
            }
            return bits;
        }

        /** STEPS from a CELL to the nearest other PAGE that is there; NONE: none is. */
        int stepsToOthers(Snow now, int page, int cell) {
            int nearest = NONE;
            for (int p = 0; p < hall.pages; p++) {
                if (p != page && now.depth[p] > 0) {
                    int steps = hall.steps(cell, hall.pageCell(p));
                    nearest = nearest == NONE ? steps : Math.min(nearest, steps);
                }
            }
            return nearest;
        }

        int knowers(Snow now, int page) {
            int knowers = 0;
            for (int r = 0; r < hall.readers; r++) {
                if (now.recall(r, page) != NONE) {
                    knowers++;
                }
            }
            return knowers;
        }

        boolean isSplit(Snow now, int page) {
            int word = NONE;
            for (int r = 0; r < hall.readers; r++) {
                int told = now.recall(r, page);
                if (told != NONE && word != NONE && told != word) {
                    return true;
                }
                word = told == NONE ? word : told;
            }
            return false;
        }

        int apartFrom(Snow now, int page, int word) {
            if (!hall.hasPage(page)) {
                return 0;
            }
            int together = now.depth[page] > 0 ? turn(now.says[page], word) : 0;
            for (int r = 0; r < hall.readers; r++) {
                int told = now.recall(r, page);
                together += told == NONE ? 0 : turn(told, word);
            }
            return together;
        }

        private static int turn(int a, int b) {
            int way = Math.abs(a - b);
            return Math.min(way, WORDS - way);
        }

        int meltOfSet(Snow now, int page, int cell, int set) {
            int others = Integer.bitCount(set) - 1;
            int together = 0;
            for (int r = 0; r < hall.readers; r++) {
                if ((set >> r & 1) == 1) {
                    together += winter.meltBy(now, r, page, cell, others);
                }
            }
            return together;
        }

        /** Parts of PARTS by which m or more of n are right. */
        int passing(int n, int m, int chance) {
            Arrays.fill(parts, 0);
            parts[0] = PARTS;
            for (int q = 0; q < n; q++) {
                // Falling: what comes to one more right must not be asked this question again.
                for (int right = Math.min(q, MAX_QUESTIONS); right >= 0; right--) {
                    long gone = parts[right] * chance / 100;
                    parts[right] -= gone;
                    parts[right + 1] += gone;
                }
            }
            long passing = 0;
            for (int right = Math.max(0, m); right < parts.length; right++) {
                passing += parts[right];
            }
            return (int) passing;
        }
    }
}
