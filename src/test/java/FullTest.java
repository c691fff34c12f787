/** All calls in a full HALL: twelve PAGES, six READERS, thirty CELLS, four LAWS, four PLANS; and in the smallest one. */
final class FullTest {
    private static final Check C = new Check("FullTest");
    private static final int NONE = SnowBooks.NONE;
    private static final int HIDDEN = SnowBooks.HIDDEN;

    public static void main(String[] args) {
        deeds();
        memories();
        questions();
        melting();
        smallest();
        C.end();
    }

    /** PAGES in CELLS 0 to 11 say their number modulo ten, six of each BOOK; READERS in CELL 0 melt nothing. */
    private static Run full() {
        StringBuilder hall = new StringBuilder("hall sw6h5f0a99");
        for (int p = 0; p < 12; p++) {
            hall.append(";pc").append(p).append('t').append(p % 10).append('b').append(p / 6);
        }
        for (int r = 0; r < 6; r++) {
            hall.append(";rb0v9n").append(r % 2);
        }
        return Run.of(hall.toString());
    }

    private static void deeds() {
        C.promise(13, "READ: what it SAYS.");
        Run x = full();
        C.due(x, "count(0)", 12, "count(1)", 6, "count(7)", 30, "left(0)", 4095, "last(11)", NONE, "far()", 6);
        for (int r = 0; r < 6; r++) {
            C.due(x, "read(" + r + ", " + r + ")", r, "reader(" + r + ", 5)", 1 << r);
        }
        C.due(x, "needy()", 63, "who(0)", 63, "who(1)", NONE, "night()", 1);
        for (int r = 0; r < 6; r++) {
            C.due(x, "read(" + r + ", " + (r + 6) + ")", (r + 6) % 10, "reader(" + r + ", 5)", 65 << r);
        }
        C.due(x, "who(1)", 63, "known()", 4095, "sure()", 0, "split()", 0);

        C.promise(16, "TELL: how many PAGES more the other one KNOWS.");
        x.then("night()");
        for (int r = 0; r < 5; r++) {
            C.due(x, "go(" + r + ", 11)", 5 - r);
        }
        x.then("night()");
        for (int r = 0; r < 5; r++) {
            C.due(x, "tell(" + r + ", 5)", 2);
        }
        C.due(x, "who(0)", 32, "who(1)", 32, "needy()", 31, "sure()", 0xfff & ~(1 << 5 | 1 << 11), "learnt(5)", 6,
                "reader(5, 5)", 4095, "likely(11, 0)", 1, "likely(11, 1)", 0, "tell(5, 0)", 10, "learnt(0)", 6);
    }

    private static void memories() {
        C.promise(18, "HARE: DEPTH lost in all.");
        StringBuilder hall = new StringBuilder("hall sw6h5;r");
        for (int p = 0; p < 12; p++) {
            hall.append(";pc29d9");
        }
        Run x = Run.of(hall.toString());
        C.due(x, "count(10)", 108, "hare(29)", 36, "hare(28)", 0, "hare(29)", 36, "hare(29)", 36, "hare(29)", 0, "count(9)", 12,
                "left(0)", 0, "far()", 0, "first()", NONE, "placeFor(11, 0)", 0, "placeFor(11, 1)", NONE, "share(0, 0)", 0,
                "order(0, 0, 0)", HIDDEN, "quiet(0, 0)", 0, "quiet(0, 1)", 0, "undo()", 4, "undo()", 3, "count(10)", 36);
    }

    private static void questions() {
        C.promise(32, "PLACE for a PAGE: the CELL with the most STEPS to the nearest other PAGE that is there");
        C.due(full(), "placeFor(11, 0)", 29, "placeFor(11, 1)", 4, "placeFor(0, 0)", 24, "placeFor(0, 1)", 3);

        C.promise(38, "together are k (0 .. 99): how many, the i-th (rising).");
        C.due(full(), "breathed(11, 11, 0, -1)", 64, "breathed(11, 11, 0, 63)", 63, "breathed(11, 11, 0, 64)", NONE);

        C.promise(29, "the most PAGES");
        C.due(full(), "share(1, 0)", 6, "share(1, 1)", 0, "share(0, 0)", 6, "share(2, 0)", 0);

        C.promise(28, "more than five, no such ones.");
        C.due(full(), "order(5, 1, 0)", HIDDEN, "hare(11)", 3, "hare(11)", 2, "count(9)", 1,
                "order(5, 1, 0)", (((6 * 12 + 7) * 12 + 8) * 12 + 9) * 12 + 10, "order(5, 1, 1)", 0);
    }

    private static void melting() {
        C.promise(29, "of the ways with so many the least LOSS together (each LOSS as if alone).");
        Run x = full().then("law y:1");
        // Each CELL of the second row has one above it, and one at its side at the ends, else two.
        C.due(x, "loss(5, 11)", 3, "loss(0, 8)", 4, "share(1, 1)", 2 * 3 + 4 * 4);

        C.promise(19, "CENTURIES: the DAY.");
        C.due(x, "breathed(11, 11, 6, 0)", 63, "centuries(60, 5)", 60, "count(11)", 60, "count(12)", 40);

        C.promise(10, "False: no such one.");
        x = full().then("law y:6").then("law y:7").then("law y:8").then("law y:9");
        C.due(x, "law(3)", 1, "law(4)", 0, "melt(0, 11, 11)", 9, "law(0)", 1, "melt(0, 11, 11)", 6);

        C.promise(23, "RUN of a PLAN (apart): behind how many STEPS the first is that can't be");
        x = full();
        for (int plan = 0; plan < 4; plan++) {
            x.then("plan n;n;n;n;n;n;n;n;n;n;n;n;n;n;n;r5" + (plan < 3 ? 11 : 0));
        }
        C.due(x, "run(3, 0)", NONE, "run(0, 0)", NONE, "perform(2)", 16, "perform(3)", 16, "reader(5, 0)", 0, "count(6)", 30);
    }

    private static void smallest() {
        C.promise(6, "of s: w WIDTH (1 .. 6; 5 without)");
        Run x = Run.of("hall sw1h1;pd1;rb0v0");
        C.due(x, "count(7)", 1, "go(0, 0)", NONE, "go(0, 1)", NONE, "melt(0, 0, 0)", 0, "loss(0, 0)", 0, "order(0, 0, 0)", 0,
                "share(0, 0)", 1, "share(0, 1)", 0, "who(0)", NONE, "placeFor(0, 0)", 0, "placeFor(0, 1)", NONE, "needy()", 1,
                "quiet(0, 0)", 0, "far()", 0, "breathed(0, 0, 0, -1)", 2, "hare(0)", 1, "hare(1)", NONE, "left(0)", 0,
                "last(0)", 0, "tell(0, 1)", NONE, "tell(0, 0)", NONE, "first()", NONE, "read(0, 0)", NONE);
    }
}
