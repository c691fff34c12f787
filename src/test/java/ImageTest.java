/** Promises 43 to 45: IMAGE, BACK, counts. */
final class ImageTest {
    private static final Check C = new Check("ImageTest");
    private static final int NONE = SnowBooks.NONE;
    private static final int HIDDEN = SnowBooks.HIDDEN;

    public static void main(String[] args) {
        image();
        imageKeeps();
        imageKeepsLog();
        notKept();
        back();
        backRefused();
        counts();
        constants();
        C.end();
    }

    private static void image() {
        C.promise(43, "An IMAGE (instead of the one ahead): the DAY.");
        Run x = Run.of("hall pd9;rb0", "read(0, 0)");
        C.due(x, "image()", 0, "night()", 1, "image()", 1, "night()", 2, "night()", 3, "back()", 1, "count(6)", 1, "night()", 2,
                "image()", 2, "night()", 3, "back()", 2, "back()", 2);
        C.due(x.again().then("image()"), "count(12)", 0, "count(11)", x.ask("count(11)"), "count(6)", 2);
        C.due(Run.of("hall p;r", "night()", "image()"), "count(12)", 1, "undo()", 0, "count(6)", 0, "back()", 1);

        C.promise(43, "NONE: no HALL.");
        C.still(Run.of(), "image()", NONE);
        C.still(Run.of("tape p;r"), "image()", NONE);
    }

    private static void imageKeeps() {
        C.promise(43, "An IMAGE keeps all but SLIPS, LAWS, PLANS; BACK: it is so again");
        Run x = Run.of("hall sw3h1c60f9a5;pt1d9;pc1t2d5;rv2;rc1b9", "read(0, 0)", "night()", "go(0, 1)");
        String image = x.again().now();
        x.then("image()").then("tell(0, 1)").then("read(1, 1)").then("night()").then("hare(0)").then("recut(0, 0)")
                .then("go(1, 2)").then("slips(99)").then("centuries(9, 5)");
        C.due("all is other", x.again().now().equals(image), false);
        Run back = x.again().then("back()");
        String undone = image.replace("count(12)=3", "count(12)=0").replace("count(8)=0", "count(8)=99");
        C.due("all is so again", back.again().now().equals(undone), true);
        C.due(x, "back()", 1, "count(6)", 1, "hall(2)", 51, "page(0, 1)", 8, "page(1, 1)", 5, "page(0, 3)", 1, "reader(0, 0)", 1,
                "reader(0, 4)", 1, "reader(1, 4)", 0, "memory(0, 0)", 1, "memory(1, 0)", NONE, "count(11)", 3, "log(0, 0)", 2,
                "log(2, 0)", 0);
        C.due("an IMAGE outlives UNDO, and what is done behind it", Run.of("hall p;r", "night()", "image()", "undo()", "hare(0)")
                .ask("back()"), 1);
    }

    private static void imageKeepsLog() {
        C.promise(44, "BACK: it is so again (no ACT can be UNDONE then).");
        Run x = Run.of("hall sw6h5;pd9;r");
        for (int i = 0; i < 70; i++) {
            x.then("hare(" + (i % 29 + 1) + ")");
        }
        x.then("image()").then("centuries(60, 1)").then("centuries(60, 2)");
        C.due(x, "log(0, 0)", 4, "count(12)", 40, "back()", 0, "count(11)", 60, "count(12)", 0, "undo()", NONE);
        for (int i = 0; i < 60; i++) {
            C.due(x, "log(" + i + ", 0)", 5, "log(" + i + ", 2)", (69 - i) % 29 + 1);
        }
        C.due(x, "log(60, 0)", HIDDEN);
        for (int i = 0; i < 50; i++) {
            x.then("night()");
        }
        for (int i = 39; i >= 0; i--) {
            C.due(x, "undo()", i);
        }
        C.due(x, "undo()", NONE, "count(11)", 60, "log(9, 0)", 4, "log(10, 2)", 69 % 29 + 1, "log(59, 2)", 20 % 29 + 1);
    }

    private static void notKept() {
        C.promise(43, "An IMAGE keeps all but SLIPS, LAWS, PLANS");
        Run x = Run.of("hall pd9;r", "slips(5)", "law y:1", "plan n", "image()", "slips(9)", "law y:2", "plan r00", "night()", "back()");
        C.due(x, "count(8)", 9, "count(2)", 2, "count(3)", 2, "step(1, 0, 0)", 0, "law(0)", 1, "melt(0, 0, 0)", 1, "law(1)", 1,
                "melt(0, 0, 0)", 2);
        // Which LAW holds is of the LAWS; the TAPE is of no HALL.
        C.due(Run.of("hall pd9;r", "law y:1", "law y:2", "image()", "law(0)", "tape abc", "back()"), "count(5)", 0, "count(4)", 3);
    }

    private static void back() {
        C.promise(44, "BACK: the DAY.");
        C.due(Run.of("hall p;r", "night()", "night()", "image()", "night()"), "back()", 2, "count(6)", 2, "night()", 3, "back()", 2);
        C.due(Run.of("hall p;r", "image()"), "back()", 0);
        C.due(Run.of("hall p;r", "image()", "read(0, 0)"), "back()", 0, "undo()", NONE, "read(0, 0)", 0, "undo()", 0, "undo()", NONE);
    }

    private static void backRefused() {
        C.promise(44, "NONE: no IMAGE of this HALL.");
        C.still(Run.of(), "back()", NONE);
        C.still(Run.of("hall p;r"), "back()", NONE);
        C.still(Run.of("hall p;p;r", "night()", "image()", "hall p;p;r", "night()"), "back()", NONE);
        C.still(Run.of("hall p;r", "image()", "hall p;p;p;r;r"), "back()", NONE);
        C.due(Run.of("hall p;r", "night()", "image()", "hall p;p;r"), "image()", 0, "night()", 1, "back()", 0, "count(0)", 2);
        C.due(Run.of("hall p;r", "night()", "image()", "night()", "tape p", "text(0)"), "back()", 1);
    }

    private static void counts() {
        C.promise(45, "0 PAGES, 1 READERS, 2 LAWS, 3 PLANS, 4 bytes of the TAPE, 5 the LAW that holds (NONE), 6 the DAY, 7 CELLS, "
                + "8 SLIPS, 9 PAGES that are LOST, 10 DEPTH in all, 11 how long the LOG is, 12 ACTS that can be UNDONE.");
        Run x = Run.of("hall sw3h2;pd1;pd5;r;r;r", "law y:2", "plan n", "plan n", "tape abcd", "slips(12)", "read(1, 1)", "night()",
                "night()");
        int[] counts = {2, 3, 1, 2, 4, 0, 2, 6, 12, 1, 3, 3, 3};
        for (int i = 0; i < counts.length; i++) {
            C.still(x, "count(" + i + ")", counts[i]);
        }
        C.due(x, "undo()", 2, "count(11)", 2, "count(12)", 2, "count(6)", 1, "law(-1)", 1, "count(5)", NONE, "end(0)", 1,
                "count(4)", 0);
        int[] none = {0, 0, 0, 0, 0, NONE, 0, 0, 0, 0, 0, 0, 0};
        for (int i = 0; i < none.length; i++) {
            C.still(Run.of(), "count(" + i + ")", none[i]);
        }
        C.due(Run.of("hall sw6h5;p;p;p;p;p;p;p;p;p;p;p;p;r;r;r;r;r;r"), "count(0)", 12, "count(1)", 6, "count(7)", 30, "count(10)", 60);
        C.due(Run.of("hall sw1h1;p;r"), "count(7)", 1);

        C.promise(45, "HIDDEN for others.");
        C.still(x, "count(13)", HIDDEN, "count(-1)", HIDDEN, "count(2147483647)", HIDDEN, "count(-2147483648)", HIDDEN);
        C.still(Run.of(), "count(13)", HIDDEN, "count(-1)", HIDDEN);
    }

    private static void constants() {
        C.promise(45, "`NONE = -1`: None; refused.");
        C.due("NONE", SnowBooks.NONE, -1);

        C.promise(45, "`HIDDEN = -1000000`: Not told.");
        C.due("HIDDEN", SnowBooks.HIDDEN, -1000000);
    }
}
