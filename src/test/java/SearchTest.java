/** Promises 32, 38, 39, 41 and 42: PLACE, BREATHED, EXAM, QUIET, FAR. */
final class SearchTest {
    private static final Check C = new Check("SearchTest");
    private static final int NONE = SnowBooks.NONE;

    public static void main(String[] args) {
        place();
        placeRefused();
        breathed();
        breathedRefused();
        exam();
        examRefused();
        quiet();
        far();
        C.end();
    }

    private static void place() {
        C.promise(32, "PLACE for a PAGE: the CELL with the most STEPS to the nearest other PAGE that is there "
                + "(of several the lowest; none there: CELL 0); these STEPS.");
        Run x = Run.of("hall sw5h1;pc2d9;pd3;r");
        C.still(x, "placeFor(0, 0)", 4, "placeFor(0, 1)", 4, "placeFor(1, 0)", 0, "placeFor(1, 1)", 2);
        x.then("hare(0)");
        C.still(x, "placeFor(0, 0)", 0, "placeFor(0, 1)", NONE, "placeFor(1, 0)", 0, "placeFor(1, 1)", 2);
        C.due(Run.of("hall sw5h1;pc0;pc4;p;r"), "placeFor(2, 0)", 2, "placeFor(2, 1)", 2);
        C.due(Run.of("hall sw5h1;pc0d1;pc4;p;r", "hare(0)"), "page(0, 1)", 0, "placeFor(2, 0)", 0,
                "placeFor(2, 1)", 4, "hare(4)", 3, "hare(4)", 2, "placeFor(2, 0)", 0, "placeFor(2, 1)", NONE);
        C.due(Run.of("hall sw6h5;pc0;pc7;r"), "placeFor(1, 0)", 29, "placeFor(1, 1)", 9, "placeFor(0, 0)", 29, "placeFor(0, 1)", 7);
        C.due(Run.of("hall sw3h3;pc4;p;r"), "placeFor(1, 0)", 0, "placeFor(1, 1)", 2);
        C.due(Run.of("hall sw2h1;p;pc1;p;r"), "placeFor(2, 0)", 0, "placeFor(2, 1)", 0);
        C.due(Run.of("hall sw2h1;p;p;r"), "placeFor(1, 0)", 1, "placeFor(1, 1)", 1);
        C.due(Run.of("hall sw3h1;pc2d1;p;r"), "placeFor(1, 0)", 0, "placeFor(1, 1)", 2);
        C.due(Run.of("hall sw1h1;p;p;r"), "placeFor(0, 0)", 0, "placeFor(0, 1)", 0);
        C.due(Run.of("hall p;r"), "placeFor(0, 0)", 0, "placeFor(0, 1)", NONE);
    }

    private static void placeRefused() {
        C.promise(32, "PLACE: the CELL (0), STEPS (1; NONE: no other PAGE is there). NONE: no such ones.");
        Run x = Run.of("hall sw5h1;pc2d9;pd3;r");
        C.still(x, "placeFor(2, 0)", NONE, "placeFor(-1, 0)", NONE, "placeFor(12, 1)", NONE, "placeFor(2147483647, 0)", NONE,
                "placeFor(-2147483648, 0)", NONE);
        C.still(x, "placeFor(0, 2)", NONE, "placeFor(0, -1)", NONE, "placeFor(0, 2147483647)", NONE);
        C.still(Run.of(), "placeFor(0, 0)", NONE, "placeFor(0, 1)", NONE);
        C.still(Run.of("hall p;p;p;r", "hare(0)", "hare(0)"), "placeFor(1, 1)", NONE, "placeFor(1, 0)", 0);
    }

    private static void breathed() {
        C.promise(38, "BREATHED: sets of READERS (bits) whose MELTS of a PAGE, if each was in a told CELL (the same for all), "
                + "DEPTH, COLD, DAY as now, n how many others of the set there are, together are k (0 .. 99): "
                + "how many, the i-th (rising).");
        // At COLD 40 they melt 1, 1 and 2 a STEP away; 2, 2 and 3 in the CELL; wherever they are, however little is there.
        Run x = Run.of("hall sw3h1;pd1;rc2;r;rb4");
        C.still(x, "breathed(0, 1, 2, -1)", 2, "breathed(0, 1, 2, 0)", 3, "breathed(0, 1, 2, 1)", 4, "breathed(0, 1, 2, 2)", NONE);
        C.still(x, "breathed(0, 0, 7, -1)", 1, "breathed(0, 0, 7, 0)", 7, "breathed(0, 0, 2, -1)", 2, "breathed(0, 0, 2, 1)", 2);
        C.still(x, "breathed(0, 0, 0, -1)", 1, "breathed(0, 0, 0, 0)", 0, "breathed(0, 0, 0, 1)", NONE);
        C.still(x, "breathed(0, 2, 0, -1)", 8, "breathed(0, 2, 0, 0)", 0, "breathed(0, 2, 0, 7)", 7, "breathed(0, 2, 0, 8)", NONE,
                "breathed(0, 2, 1, -1)", 0);
        C.still(x, "breathed(0, 0, 99, -1)", 0, "breathed(0, 0, 99, 0)", NONE);
        x.then("law y:n");
        C.still(x, "breathed(0, 0, 2, -1)", 3, "breathed(0, 0, 2, 0)", 3, "breathed(0, 0, 2, 1)", 5, "breathed(0, 0, 2, 2)", 6,
                "breathed(0, 0, 0, -1)", 4, "breathed(0, 0, 0, 3)", 4, "breathed(0, 0, 6, 0)", 7);
        Run y = Run.of("hall sw3h1c9f2;pd5;r;r", "law y:d+t", "night()");
        C.still(y, "breathed(0, 0, 6, -1)", 2, "breathed(0, 0, 12, 0)", 3, "breathed(0, 0, 12, -1)", 1);
        C.due(y.then("law y:c+s"), "breathed(0, 0, 7, -1)", 2, "breathed(0, 1, 8, -1)", 2, "breathed(0, 1, 16, 0)", 3);
        Run six = Run.of("hall p;r;r;r;r;r;r", "law y:9");
        C.still(six, "breathed(0, 0, 54, -1)", 1, "breathed(0, 0, 54, 0)", 63, "breathed(0, 0, 27, -1)", 20,
                "breathed(0, 0, 27, 19)", 56, "breathed(0, 0, 9, 5)", 32);
        C.due(six.then("read(0, 0)"), "count(9)", 1, "breathed(0, 0, 0, -1)", NONE);
    }

    private static void breathedRefused() {
        C.promise(38, "BREATHED: how many (i NONE), the i-th. NONE: no such one, no such PAGE or CELL, LOST, out of bounds.");
        Run x = Run.of("hall sw3h2;pd9;pc1d3;r;r", "hare(1)");
        C.still(x, "breathed(0, 0, 2, -1)", 2, "breathed(0, 0, 2, 0)", 1, "breathed(0, 0, 2, 1)", 2);
        C.still(x, "breathed(0, 0, 2, 2)", NONE, "breathed(0, 0, 2, -2)", NONE, "breathed(0, 0, 2, 2147483647)", NONE,
                "breathed(0, 0, 2, -2147483648)", NONE);
        C.still(x, "breathed(2, 0, 0, -1)", NONE, "breathed(-1, 0, 0, -1)", NONE, "breathed(12, 0, 0, 0)", NONE,
                "breathed(2147483647, 0, 0, -1)", NONE);
        C.still(x, "breathed(0, 6, 0, -1)", NONE, "breathed(0, -1, 0, -1)", NONE, "breathed(0, 5, 0, -1)", 4,
                "breathed(0, 29, 0, 0)", NONE, "breathed(0, -2147483648, 0, -1)", NONE);
        C.still(x, "breathed(1, 1, 0, -1)", NONE, "breathed(1, 1, 0, 0)", NONE);
        C.still(x, "breathed(0, 0, 100, -1)", NONE, "breathed(0, 0, -1, -1)", NONE, "breathed(0, 0, 99, -1)", 0,
                "breathed(0, 0, 2147483647, -1)", NONE, "breathed(0, 0, -2147483648, -1)", NONE);
        C.still(Run.of(), "breathed(0, 0, 0, -1)", NONE, "breathed(0, 0, 0, 0)", NONE);
    }

    private static void exam() {
        C.promise(39, "EXAM of n (1 .. 12) questions by luck at a chance (0 .. 100): of 10 to the 9 parts those by which "
                + "m (0 .. 13) or more are right");
        Run x = Run.of();
        C.still(x, "exam(1, 1, 50)", 500000000, "exam(1, 0, 50)", 1000000000, "exam(1, 2, 50)", 0, "exam(1, 13, 100)", 0);
        C.still(x, "exam(3, 2, 50)", 500000000, "exam(3, 1, 50)", 875000000, "exam(3, 3, 50)", 125000000, "exam(2, 1, 10)", 190000000);
        C.still(x, "exam(12, 12, 100)", 1000000000, "exam(12, 13, 100)", 0, "exam(12, 0, 33)", 1000000000, "exam(12, 0, 0)", 1000000000,
                "exam(12, 1, 0)", 0, "exam(1, 1, 100)", 1000000000, "exam(1, 1, 0)", 0, "exam(1, 1, 1)", 10000000,
                "exam(1, 1, 99)", 990000000);
        C.due(Run.of("hall p;r", "read(0, 0)"), "exam(1, 1, 50)", 500000000);

        C.promise(39, "question by question chance by 100 of each, cut, are right, the rest not (parts by how many are right so far).");
        C.still(x, "exam(5, 5, 3)", 24, "exam(6, 6, 3)", 0, "exam(12, 12, 50)", 244140, "exam(9, 9, 50)", 1953125,
                "exam(10, 10, 50)", 976562, "exam(11, 11, 50)", 488281);
        long[] parts = new long[14];
        parts[0] = 1000000000L;
        for (int q = 1; q <= 12; q++) {
            for (int right = q - 1; right >= 0; right--) {
                long are = parts[right] * 37 / 100;
                parts[right + 1] += are;
                parts[right] -= are;
            }
            long passing = 0;
            for (int m = 13; m >= 0; m--) {
                passing += parts[m];
                C.due(x, "exam(" + q + ", " + m + ", 37)", passing);
            }
        }
    }

    private static void examRefused() {
        C.promise(39, "EXAM. NONE: out of bounds.");
        Run x = Run.of("hall p;r", "night()");
        C.still(x, "exam(0, 0, 50)", NONE, "exam(13, 0, 50)", NONE, "exam(-1, 0, 50)", NONE, "exam(2147483647, 0, 50)", NONE,
                "exam(-2147483648, 0, 50)", NONE);
        C.still(x, "exam(1, -1, 50)", NONE, "exam(1, 14, 50)", NONE, "exam(12, 13, 50)", 0, "exam(12, 2147483647, 50)", NONE,
                "exam(12, -2147483648, 50)", NONE);
        C.still(x, "exam(1, 1, 101)", NONE, "exam(1, 1, -1)", NONE, "exam(1, 1, 2147483647)", NONE, "exam(1, 1, -2147483648)", NONE);
    }

    private static void quiet() {
        C.promise(41, "QUIET: the CELL (of several the lowest) in which a READER who breathed there would melt the least in all; "
                + "how much.");
        // BREATH 5 at COLD 40: 4 in the CELL, 3 a STEP away: 1 + 3 of CELL 0, 1 + 4 + 2 of CELL 1, 3 + 2 of CELL 2.
        C.still(Run.of("hall sw3h1;pd1;pc1d9;pc2d2;rb5"), "quiet(0, 0)", 0, "quiet(0, 1)", 4);
        C.still(Run.of("hall sw3h1;pd2;pc1d9;pc2d1;rb5"), "quiet(0, 0)", 2, "quiet(0, 1)", 4);
        C.still(Run.of("hall sw3h1;pd9;r"), "quiet(0, 0)", 2, "quiet(0, 1)", 0);
        C.still(Run.of("hall sw3h1;pc1d9;r"), "quiet(0, 0)", 0, "quiet(0, 1)", 1);
        C.due(Run.of("hall sw2h1;pd3;pc1d9;rb9;r"), "quiet(0, 0)", 0, "quiet(0, 1)", 10, "hare(1)", 3, "hare(1)", 3, "quiet(0, 1)", 6,
                "hare(0)", 3, "quiet(0, 0)", 0, "quiet(0, 1)", 3, "hare(1)", 3, "quiet(0, 0)", 0, "quiet(0, 1)", 0);
        Run x = Run.of("hall sw2h1;pd9;r;rc1", "law y:1+n");
        C.still(x, "quiet(0, 0)", 0, "quiet(0, 1)", 1, "quiet(1, 0)", 1, "quiet(1, 1)", 1);
        C.still(x.then("go(0, 1)"), "quiet(0, 0)", 0, "quiet(0, 1)", 1, "quiet(1, 0)", 0);
        C.due(Run.of("hall sw6h5;pc0;pc7;pc14;pc21;pc28;pc5;pc10;pc24;pc19;rb9"), "quiet(0, 0)", 2, "quiet(0, 1)", 0);
        C.due(Run.of("hall sw6h5;pd9;r", "law y:9-s-t"), "quiet(0, 0)", 2, "quiet(0, 1)", 0);

        C.promise(41, "QUIET: the CELL (0), how much (1). NONE: no such ones.");
        C.still(x, "quiet(2, 0)", NONE, "quiet(-1, 0)", NONE, "quiet(6, 1)", NONE, "quiet(2147483647, 0)", NONE,
                "quiet(-2147483648, 1)", NONE);
        C.still(x, "quiet(0, 2)", NONE, "quiet(0, -1)", NONE, "quiet(0, 2147483647)", NONE);
        C.still(Run.of(), "quiet(0, 0)", NONE, "quiet(0, 1)", NONE);
    }

    private static void far() {
        C.promise(42, "FAR: the greatest STEPS between two PAGES that are there.");
        Run x = Run.of("hall sw6h5;pc0d1;pc29d3;pc5d9;pc6d9;r");
        C.still(x, "far()", 9);
        C.due(x, "hare(0)", 1, "far()", 8, "hare(6)", 3, "hare(6)", 3, "hare(6)", 3, "far()", 4, "hare(29)", 3, "far()", 0,
                "hare(5)", 3, "hare(5)", 3, "hare(5)", 3, "far()", 0);
        C.due(Run.of("hall sw6h5;pc24;pc5;r"), "far()", 9);
        C.due(Run.of("hall sw6h5;pc5;pc6;r"), "far()", 6);
        C.due(Run.of("hall p;p;p;r"), "far()", 0);
        C.due(Run.of("hall p;r"), "far()", 0);

        C.promise(42, "FAR. NONE: no HALL.");
        C.still(Run.of(), "far()", NONE);
    }
}
