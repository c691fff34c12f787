import java.math.BigInteger;

/** Promise 19: CENTURIES and their slips. The draws are made here once more, by numbers without bounds. */
final class CenturiesTest {
    private static final Check C = new Check("CenturiesTest");
    private static final int NONE = SnowBooks.NONE;
    private static final BigInteger TURN = BigInteger.ONE.shiftLeft(64);
    private static final long[] SEEDS = {0, 1, 2, -1, -2, 123456789012345L, 1L << 33, 1L << 63, Long.MAX_VALUE};
    private static BigInteger x;

    public static void main(String[] args) {
        nights();
        byNumbers();
        read();
        recut();
        neither();
        slips();
        memorySlips();
        draws();
        acts();
        C.end();
    }

    private static void start(long seed) {
        x = BigInteger.valueOf(seed).mod(TURN);
    }

    private static int draw(int m) {
        x = x.multiply(new BigInteger("6364136223846793005")).add(new BigInteger("1442695040888963407")).mod(TURN);
        return x.shiftRight(33).mod(BigInteger.valueOf(m)).intValue();
    }

    /** The first seed by which these are the first draws. */
    private static long seed(int... drawsAndModuli) {
        for (long seed = 0; seed < 100000; seed++) {
            start(seed);
            boolean fits = true;
            for (int i = 0; i < drawsAndModuli.length && fits; i += 2) {
                fits = draw(drawsAndModuli[i + 1]) == drawsAndModuli[i];
            }
            if (fits) {
                return seed;
            }
        }
        throw new IllegalStateException("no such seed");
    }

    private static String century(long seed) {
        return "centuries(1, " + seed + ")";
    }

    private static void nights() {
        C.promise(19, "CENTURIES: the DAY.");
        C.due(Run.of("hall p;r"), "centuries(1, 5)", 1, "count(6)", 1, "centuries(3, 5)", 4, "night()", 5,
                "centuries(60, 5)", 65, "count(6)", 65);
        C.due(Run.of("hall p;r", "centuries(60, 5)", "centuries(60, 5)"), "count(6)", 120, "night()", 121);

        C.promise(19, "CENTURIES by a seed: n (1 .. 60) NIGHTS");
        C.due(Run.of("hall sc99f1;pc19;r"), "centuries(1, 0)", 1, "hall(2)", 98, "log(0, 0)", 4, "count(11)", 1,
                "centuries(59, 0)", 60, "hall(2)", 39, "count(11)", 60);
        C.due(Run.of("hall pc19;r"), "centuries(60, 0)", 60);

        C.promise(19, "NONE: no HALL, out of bounds.");
        C.still(Run.of(), "centuries(1, 1)", NONE, "centuries(0, 1)", NONE);
        C.still(Run.of("hall p;r"), "centuries(0, 1)", NONE, "centuries(61, 1)", NONE, "centuries(-1, 1)", NONE,
                "centuries(2147483647, 1)", NONE, "centuries(-2147483648, 1)", NONE);
    }

    private static void byNumbers() {
        C.promise(19, "ahead of each for each READER by numbers, if it has not done a deed");
        String hall = "hall sf0a99;pd9;pc1d9;pc2d9;rb0v9;rb0v9;rb0v9";
        long seed = seed(0, 3, 1, 3, 2, 3, 2, 3, 0, 3, 1, 3);
        int[] who = {NONE, 2, 1, 0, NONE, 2, 1, 0};
        int[] pages = {NONE, 1, 0, 2, NONE, 2, 1, 0};
        Run all = Run.of(hall, "centuries(2, " + seed + ")");
        for (int i = 0; i < who.length; i++) {
            C.due(all, "log(" + i + ", 1)", who[i], "log(" + i + ", 2)", pages[i]);
        }
        // One who has done a deed draws nothing: the draw is the next one's; tomorrow it draws again.
        Run x = Run.of(hall, "go(1, 5)", "centuries(2, " + seed + ")");
        int[] others = {NONE, 2, 1, 0, NONE, 2, 0};
        int[] others2 = {NONE, 0, 2, 2, NONE, 1, 0};
        C.due(x, "count(11)", 8);
        for (int i = 0; i < others.length; i++) {
            C.due(x, "log(" + i + ", 1)", others[i], "log(" + i + ", 2)", others2[i]);
        }
    }

    private static void read() {
        C.promise(19, "a draw of how many PAGES there are in the HALL: that one, "
                + "if it is there and within SPEED STEPS, it READS");
        C.due(Run.of("hall pt4d9;r"), "centuries(1, 5)", 1, "count(12)", 2, "log(1, 0)", 0, "log(1, 1)", 0, "log(1, 2)", 0,
                "log(1, 3)", 2, "memory(0, 0)", 4, "page(0, 1)", 7, "undo()", 1, "reader(0, 4)", 1);
        String hall = "hall sw6h1f0a99;pd9;pc3d1;pc4d9;rb0v3;rb0v9";
        C.due(Run.of(hall, "go(1, 1)", century(seed(1, 3))), "log(1, 0)", 0, "log(1, 2)", 1, "reader(0, 0)", 3);
        C.due(Run.of(hall, "go(1, 1)", century(seed(2, 3))), "count(11)", 2, "reader(0, 0)", 0, "reader(0, 5)", 0);
        // LOST ones are drawn, too: of three, not of the two that are there.
        Run lost = Run.of(hall, "hare(3)", "go(1, 1)");
        C.due(lost.again().then(century(seed(1, 3, 0, 2))), "count(11)", 3);
        C.due(lost.again().then(century(seed(0, 3, 1, 2))), "count(11)", 4, "log(1, 2)", 0);
        StringBuilder twelve = new StringBuilder("hall sw6h2f0a99;rb0v9");
        for (int p = 0; p < 12; p++) {
            twelve.append(";pc").append(p);
        }
        C.due(Run.of(twelve.toString(), century(seed(11, 12))), "log(1, 2)", 11, "reader(0, 5)", 1 << 11);
        C.due(Run.of(twelve.toString(), century(seed(0, 12))), "log(1, 2)", 0);
    }

    private static void recut() {
        C.promise(19, "else, if it is LOST, it KNOWS it and it is within SPEED STEPS: it RECUTS it");
        Run x = Run.of("hall sw6h1f0a99;pt4d1;pc4t5d9;rb9v2", "read(0, 0)", "night()");
        C.due(x, "page(0, 1)", 0);
        long first = seed(0, 2);
        C.due(x.again().then(century(first)), "log(1, 0)", 1, "log(1, 1)", 0, "log(1, 2)", 0, "log(1, 3)", 0,
                "page(0, 1)", 9, "page(0, 3)", 4, "memory(0, 0)", 4, "count(12)", 4);
        x.then("go(0, 2)").then("night()");
        C.due(x.again().then(century(first)), "log(1, 0)", 1, "reader(0, 0)", 0);
        x.then("go(0, 3)").then("night()");
        C.due(x.again().then(century(first)), "log(0, 0)", 4, "log(1, 0)", 4, "reader(0, 0)", 3, "page(0, 1)", 0);
        C.due(Run.of("hall sf0a99;pt4d1;rb9;r", "read(0, 0)", "night()", "go(0, 1)", "centuries(1, 0)"), "log(1, 0)", 2,
                "page(0, 1)", 0);
    }

    private static void neither() {
        C.promise(19, "it READS; else, if it is LOST");
        // A PAGE that is there and known is read, never recut; one that is there and too far is left alone.
        Run x = Run.of("hall sw6h1f0a99;pt4d5;rb0v2", "read(0, 0)", "night()");
        C.due(x.again().then("centuries(1, 0)"), "log(1, 0)", 0, "page(0, 1)", 5);
        x.then("go(0, 2)").then("night()").then("go(0, 3)").then("night()");
        C.due(x.again().then("centuries(1, 0)"), "log(0, 0)", 4, "log(1, 0)", 4, "page(0, 1)", 5, "reader(0, 0)", 3);
        C.due(Run.of("hall pd1;r", "hare(0)", "centuries(2, 0)"), "count(11)", 3, "page(0, 1)", 0);
    }

    /** The only READER knows the LOST PAGE that says so, and recuts it: what it says behind that. */
    private static void slipped(int says, int slips, long seed, int want) {
        Run x = Run.of("hall sf0a99;pd1t" + says + ";rb9", "read(0, 0)", "night()");
        x = slips == 0 ? x : x.then("slips(" + slips + ")");
        C.due(x.then(century(seed)), "page(0, 3)", want, "memory(0, 0)", want, "page(0, 1)", 9, "count(12)", 4,
                "log(1, 0)", 1, "log(1, 3)", 0, "undo()", 3, "undo()", 2, "page(0, 3)", says, "memory(0, 0)", says);
    }

    private static void slips() {
        C.promise(19, "and a draw of 100 below SLIPS (0 .. 99; 0 at first): the PAGE SAYS one more (9: 0), as does its memory.");
        slipped(4, 50, seed(0, 1, 49, 100), 5);
        slipped(4, 50, seed(0, 1, 50, 100), 4);
        slipped(4, 50, seed(0, 1, 51, 100), 4);
        slipped(4, 1, seed(0, 1, 0, 100), 5);
        slipped(4, 1, seed(0, 1, 1, 100), 4);
        slipped(4, 99, seed(0, 1, 98, 100), 5);
        slipped(4, 99, seed(0, 1, 99, 100), 4);
        slipped(4, 0, seed(0, 1, 0, 100), 4);
        slipped(8, 99, seed(0, 1, 0, 100), 9);
        slipped(9, 99, seed(0, 1, 0, 100), 0);
        slipped(0, 99, seed(0, 1, 0, 100), 1);
        C.due(Run.of("hall sf0a99;pd1t4;rb9", "read(0, 0)", "night()", "slips(99)"), "recut(0, 0)", 4, "page(0, 3)", 4);
        C.due(Run.of("hall sf0a99;pd9t4;rb9", "slips(99)", century(seed(0, 1, 0, 100))), "page(0, 3)", 4, "memory(0, 0)", 4);
    }

    /** What the second slip starts from, who else's memory stays, and that the draw is made at SLIPS 0, too. */
    private static void memorySlips() {
        C.promise(19, "the PAGE SAYS one more (9: 0), as does its memory.");
        Run x = Run.of("hall sf0a99;pd1t8;rb9v0;rb0v0", "read(0, 0)", "night()", "tell(0, 1)", "night()", "tell(1, 0)",
                "slips(99)");
        C.due(x, "memory(0, 0)", 8, "memory(1, 0)", 8, "page(0, 1)", 0);
        x.then(century(seed(0, 1, 0, 100)));
        C.due(x, "memory(0, 0)", 9, "memory(1, 0)", 8, "page(0, 3)", 9, "hare(0)", 3, "hare(0)", 3, "hare(0)", 3,
                "tell(1, 0)", 0);
        x.then(century(seed(0, 1, 0, 100)));
        C.due(x, "memory(0, 0)", 0, "memory(1, 0)", 8, "page(0, 3)", 0);

        C.promise(19, "and a draw of 100 below SLIPS (0 .. 99; 0 at first)");
        // At SLIPS 0 it is drawn, too: the next READER's draw is the third.
        long seed = seed(0, 2, 0, 100, 1, 2);
        x = Run.of("hall sf0a99;pd1;pc1d9;rb9v0;rb0v9", "read(0, 0)", "night()", century(seed));
        C.due(x, "log(0, 0)", 4, "log(1, 0)", 0, "log(1, 1)", 1, "log(1, 2)", 1, "log(2, 0)", 1);
    }

    private static void draws() {
        C.promise(19, "x, at first the seed, becomes x times 6364136223846793005 and 1442695040888963407 "
                + "(64 bits, going round); a draw of m: (x shifted right by 33, without sign) modulo m.");
        for (long seed : SEEDS) {
            for (int pages = 1; pages <= 12; pages++) {
                StringBuilder hall = new StringBuilder("hall sw6h2f0a99;rb0v9;rb0v9");
                for (int p = 0; p < pages; p++) {
                    hall.append(";pc").append(p);
                }
                Run run = Run.of(hall.toString(), "centuries(20, " + seed + ")");
                start(seed);
                for (int i = 59; i >= 0; i--) {
                    C.due(run, "log(" + i + ", 2)", i % 3 == 0 ? NONE : draw(pages));
                }
            }
        }
        start(7);
        int page = draw(5);
        C.due(Run.of("hall p;pc1;pc2;pc3;pc4;rb0v9", "centuries(1, 7)", "centuries(1, 7)"), "log(1, 2)", page, "log(3, 2)", page);
    }

    private static void acts() {
        C.promise(19, "Each deed and NIGHT is an ACT.");
        Run x = Run.of("hall sf0a99;pd9t4;rb0;rb0", "centuries(2, 5)");
        C.due(x, "count(11)", 6, "count(12)", 6, "log(0, 0)", 4, "log(1, 0)", 0, "log(2, 0)", 0, "log(3, 0)", 4, "undo()", 5,
                "count(6)", 1, "reader(1, 4)", 1, "undo()", 4, "reader(1, 4)", 0, "undo()", 3, "reader(0, 4)", 0, "undo()", 2,
                "count(6)", 0, "undo()", 1, "memory(1, 0)", NONE, "memory(0, 0)", 4, "undo()", 0, "known()", 0,
                "undo()", NONE);
        x = Run.of("hall sf0a99;pd9t4;rb0;rb0;rb0;rb0;rb0;rb0", "centuries(60, 5)");
        C.due(x, "count(11)", 60, "count(12)", 40, "undo()", 39, "count(6)", 59);
        for (int i = 38; i >= 0; i--) {
            C.due(x, "undo()", i);
        }
        C.due(x, "undo()", NONE, "count(6)", 54, "reader(0, 4)", 1, "reader(1, 4)", 1, "reader(2, 4)", 0);
    }
}
