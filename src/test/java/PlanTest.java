/** Promises 22 to 24: PLANS told, RUN apart and DONE. */
final class PlanTest {
    private static final Check C = new Check("PlanTest");
    private static final int NONE = SnowBooks.NONE;
    private static final int HIDDEN = SnowBooks.HIDDEN;

    public static void main(String[] args) {
        step();
        run();
        runBounds();
        cannotBe();
        perform();
        performBounds();
        C.end();
    }

    private static void step() {
        C.promise(22, "A STEP of a PLAN: 0 what (0 r, 1 c, 2 g, 3 n), 1 the READER (NONE), 2 the PAGE or CELL (NONE).");
        Run x = Run.of("plan r911;c0 0;g129;n", "plan n;g205");
        C.still(x, "step(0, 0, 0)", 0, "step(0, 0, 1)", 9, "step(0, 0, 2)", 11, "step(0, 1, 0)", 1, "step(0, 1, 1)", 0,
                "step(0, 1, 2)", 0, "step(0, 2, 0)", 2, "step(0, 2, 1)", 1, "step(0, 2, 2)", 29);
        C.still(x, "step(0, 3, 0)", 3, "step(0, 3, 1)", NONE, "step(0, 3, 2)", NONE);
        C.still(x, "step(1, 0, 0)", 3, "step(1, 1, 0)", 2, "step(1, 1, 1)", 2, "step(1, 1, 2)", 5);
        Run longest = Run.of("plan n;n;n;n;n;n;n;n;n;n;n;n;n;n;n;c711");
        C.due(longest, "step(0, 15, 0)", 1, "step(0, 15, 1)", 7, "step(0, 15, 2)", 11, "step(0, 16, 0)", HIDDEN);

        C.promise(22, "HIDDEN: no such ones.");
        C.still(x, "step(2, 0, 0)", HIDDEN, "step(-1, 0, 0)", HIDDEN, "step(4, 0, 0)", HIDDEN,
                "step(2147483647, 0, 0)", HIDDEN, "step(-2147483648, 0, 0)", HIDDEN);
        C.still(x, "step(0, 4, 0)", HIDDEN, "step(1, 2, 0)", HIDDEN, "step(0, -1, 0)", HIDDEN, "step(0, 16, 0)", HIDDEN,
                "step(0, 2147483647, 1)", HIDDEN, "step(0, -2147483648, 2)", HIDDEN);
        C.still(x, "step(0, 0, 3)", HIDDEN, "step(0, 0, -1)", HIDDEN, "step(0, 3, 3)", HIDDEN, "step(0, 0, 2147483647)", HIDDEN);
        C.still(Run.of(), "step(0, 0, 0)", HIDDEN);
        C.still(Run.of("plan n", "plan n", "plan n", "plan n"), "step(3, 0, 0)", 3, "step(4, 0, 0)", HIDDEN);
    }

    private static void run() {
        C.promise(23, "RUN of a PLAN (apart): behind how many STEPS the first is that can't be");
        // COLD 40, BREATH 3: it melts 2 in its CELL, 1 a STEP away: PAGE 1 is LOST when PAGE 0 is READ.
        Run x = Run.of("hall sw3h1;pd3t1;pc1d1t2;rv2", "plan r00;n;r01;n", "plan r00;n;g02;n;c00", "plan r00;g01", "plan r01;n;r00",
                "image()");
        C.still(x, "run(0, 0)", 2, "run(2, 0)", 1);
        C.still(Run.of("hall sw3h1;pd3t1;pc1d1t2;rv2", "plan c00"), "run(0, 0)", 0);

        C.promise(23, "RUN: behind how many (0; NONE: all can be), PAGES LOST (1).");
        C.still(x, "run(1, 0)", NONE, "run(3, 0)", NONE);
        C.still(x, "run(0, 1)", 1, "run(1, 1)", 1, "run(2, 1)", 1, "run(3, 1)", 2);

        C.promise(23, "how many PAGES are LOST then.");
        C.still(Run.of("hall pd1;pd2;pc9;r", "plan r00;g09", "hare(0)"), "run(0, 0)", 0, "run(0, 1)", 2);
        C.still(Run.of("hall pd3;pd9;rb9", "plan r00;r01", "plan g01"), "run(0, 1)", 1, "run(1, 1)", 0);
        C.still(Run.of("hall sc0;pd3;pd2;r", "plan n;n;r01;n", "plan n;n;n"), "run(0, 0)", 2, "run(0, 1)", 1, "run(1, 1)", 2);
        C.due(x, "read(0, 1)", 2, "run(0, 0)", 0, "run(0, 1)", 1, "night()", 1, "run(3, 0)", 0, "run(2, 0)", 1, "run(2, 1)", 2);
    }

    private static void runBounds() {
        C.promise(23, "HIDDEN: no such ones, no HALL.");
        Run x = Run.of("hall p;r", "plan n", "plan r00");
        C.still(x, "run(2, 0)", HIDDEN, "run(-1, 0)", HIDDEN, "run(4, 1)", HIDDEN, "run(2147483647, 0)", HIDDEN,
                "run(-2147483648, 0)", HIDDEN);
        C.still(x, "run(0, 2)", HIDDEN, "run(0, -1)", HIDDEN, "run(0, 2147483647)", HIDDEN);
        C.still(Run.of("plan n"), "run(0, 0)", HIDDEN, "run(0, 1)", HIDDEN);
        C.still(Run.of("hall p;r"), "run(0, 0)", HIDDEN);
        C.due(Run.of("hall p;r", "plan n", "plan n", "plan n", "plan n"), "run(3, 0)", NONE, "run(4, 0)", HIDDEN);
    }

    private static void cannotBe() {
        C.promise(23, "A READER, a PAGE that is not there is no FAULT: the STEP can't be.)");
        String hall = "hall sw3h2;pc5t1d9;pc1d1;pd9;rv1;rc4v1";
        String[] steps = {"r20", "r90", "r06", "r011", "c20", "c12", "c111", "g20", "g06", "g029", "r00", "r01", "g00", "g05",
            "g02", "c00"};
        for (String step : steps) {
            Run x = Run.of(hall, "hare(1)", "plan n;" + step + ";n");
            C.due(x, "run(0, 0)", 1, "perform(0)", 1, "count(6)", 1);
        }
        // A second deed of a day can't be either; those that are not refused can.
        C.due(Run.of(hall, "plan r10;c10"), "run(0, 0)", 1);
        C.due(Run.of(hall, "plan g01;g04"), "run(0, 0)", 1);
        C.due(Run.of(hall, "plan r10;n;c10;n;g15;n;g14;r02"), "run(0, 0)", 4);
        C.due(Run.of(hall, "plan r10;n;c10;n;g14;r02;n;g13"), "run(0, 0)", NONE);
    }

    private static void perform() {
        C.promise(24, "DO: its STEPS as ACTS, up to there.");
        Run x = Run.of("hall sw3h1;pd3t1;pc1d1t2;rv2", "plan r00;n;r01;n", "plan r00;n;g02;n;c00", "plan r00;g01");
        C.due(x.again(), "perform(0)", 2, "count(6)", 1, "count(12)", 2, "count(11)", 2, "log(0, 0)", 4, "log(0, 1)", NONE,
                "log(1, 0)", 0, "log(1, 1)", 0, "log(1, 2)", 0, "log(1, 3)", 3, "page(0, 1)", 1, "page(1, 1)", 0,
                "undo()", 1, "count(6)", 0, "undo()", 0, "count(10)", 4, "undo()", NONE);
        C.due(x.again(), "perform(1)", 5, "page(0, 1)", 9, "reader(0, 0)", 0, "reader(0, 4)", 1, "count(12)", 5, "log(0, 0)", 1,
                "log(2, 0)", 2, "log(2, 2)", 2);

        C.promise(24, "DO: how many STEPS were done.");
        C.due(x.again(), "perform(0)", 2, "perform(0)", 2, "perform(0)", 0, "count(12)", 4);
        C.due(x.again(), "perform(2)", 1, "perform(2)", 0, "count(12)", 1);
        C.due(Run.of("hall p;r", "plan n;n;n;n;n;n;n;n;n;n;n;n;n;n;n;n"), "perform(0)", 16, "perform(0)", 16, "perform(0)", 16,
                "count(6)", 48, "count(12)", 40, "count(11)", 48, "perform(0)", 16, "count(11)", 60);
        C.still(Run.of("hall p;r", "plan r90"), "perform(0)", 0);
    }

    private static void performBounds() {
        C.promise(24, "NONE: no such PLAN, no HALL.");
        C.still(Run.of("hall p;r", "plan n"), "perform(1)", NONE, "perform(-1)", NONE, "perform(4)", NONE,
                "perform(2147483647)", NONE, "perform(-2147483648)", NONE);
        C.still(Run.of("plan n"), "perform(0)", NONE);
        C.still(Run.of("hall p;r"), "perform(0)", NONE);
        C.due(Run.of("hall p;r", "plan n", "plan n", "plan n", "plan n"), "perform(3)", 1, "perform(4)", NONE);
    }
}
