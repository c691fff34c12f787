/** Promises 13 to 18, 20 and 21: READ, RECUT, GO, TELL, NIGHT, HARE, UNDO, LOG. */
final class ActsTest {
    private static final Check C = new Check("ActsTest");
    private static final int NONE = SnowBooks.NONE;
    private static final int HIDDEN = SnowBooks.HIDDEN;

    public static void main(String[] args) {
        read();
        readMelts();
        readRefused();
        recut();
        recutRefused();
        go();
        tell();
        tellRefused();
        night();
        hare();
        undo();
        undoFull();
        log();
        logFull();
        refused();
        C.end();
    }

    /** READERS 0 and 1 in CELL 0 KNOW PAGE 0 as 6 and as 5; it SAYS 6, DEPTH 9; nothing melts by them. */
    private static Run twoMemories() {
        Run x = Run.of("hall sw6h1f0a99;pt5d9;pc5t1d9;rb0v0;rb0v0;rb0v9c5", "read(0, 0)", "read(1, 0)", "night()", "hare(0)",
                "hare(0)", "hare(0)", "tell(1, 0)", "go(2, 4)", "slips(99)", "centuries(1, 2)");
        C.due(x, "memory(0, 0)", 6, "memory(1, 0)", 5, "page(0, 3)", 6, "page(0, 1)", 9);
        return x;
    }

    private static void row(Run x, int i, int kind, int who, int what, int lost) {
        C.due(x, "log(" + i + ", 0)", kind, "log(" + i + ", 1)", who, "log(" + i + ", 2)", what, "log(" + i + ", 3)", lost);
    }

    private static void read() {
        C.promise(13, "READ: what it SAYS.");
        C.due(Run.of("hall pt7;pt0;r;r"), "read(0, 0)", 7, "read(1, 1)", 0);
        C.due(Run.of("hall pt4d1;rb9"), "read(0, 0)", 4, "page(0, 1)", 0, "memory(0, 0)", 4);

        C.promise(13, "READ: a PAGE that is there, within SPEED STEPS: the READER is in its CELL then and KNOWS what it SAYS");
        Run x = Run.of("hall sw6h2;pc9t3d9;pc11t4d9;rv4;rc9v0;rc0v9");
        C.due(x, "read(0, 0)", 3, "reader(0, 0)", 9, "memory(0, 0)", 3, "memory(0, 1)", NONE, "memory(1, 0)", NONE,
                "read(1, 0)", 3, "reader(1, 0)", 9, "read(2, 1)", 4, "reader(2, 0)", 11, "reader(2, 5)", 2);
        C.due(Run.of("hall sw6h2;pc9t3d9;rv3"), "read(0, 0)", NONE);
        C.due(Run.of("hall sw6h5;pc29t3d9;rv9"), "read(0, 0)", 3, "reader(0, 0)", 29);
        C.due(Run.of("hall sw6h5;pc29t3d9;rv8"), "read(0, 0)", NONE);

        C.promise(13, "(as it is, in place of what it knew of it)");
        C.due(twoMemories(), "read(1, 0)", 6, "memory(1, 0)", 6, "memory(0, 0)", 6);
        C.due(twoMemories(), "recut(1, 0)", 5, "read(0, 0)", 5, "memory(0, 0)", 5);
    }

    private static void readMelts() {
        C.promise(13, "then each PAGE that is there loses its MELT (0 at least)");
        // COLD 40, BREATH 3: it melts 1 a STEP away, 2 in its CELL.
        Run x = Run.of("hall sw4h1;pc0d5;pc1d1;pc2d9b1;pc3;rv1;rc1");
        C.due(x, "read(0, 1)", 0, "page(0, 1)", 4, "page(1, 1)", 0, "page(2, 1)", 8, "page(3, 1)", 5, "log(0, 3)", 3,
                "read(1, 2)", 0, "page(0, 1)", 4, "page(1, 1)", 0, "page(2, 1)", 6, "page(3, 1)", 4);
        C.due(Run.of("hall sc80;pd9;rb4"), "read(0, 0)", 0, "page(0, 1)", 8);
        C.due(Run.of("hall sc99;pd9;rb0"), "read(0, 0)", 0, "page(0, 1)", 9, "log(0, 3)", 0);
        C.due(Run.of("hall pd9;r", "law y:0-5"), "read(0, 0)", 0, "page(0, 1)", 9);
        C.due(Run.of("hall pd9;pd8;r", "law y:9"), "read(0, 0)", 0, "count(10)", 0, "log(0, 3)", 17);

        C.promise(13, "all by DEPTHS as they were.");
        x = Run.of("hall pd9;pd4;pd1;r;r;rc1", "law y:d>4?3;y:d-n");
        C.due(x, "read(0, 2)", 0, "page(0, 1)", 6, "page(1, 1)", 1, "page(2, 1)", 1, "log(0, 3)", 6,
                "read(1, 1)", 0, "page(0, 1)", 3, "page(1, 1)", 1, "page(2, 1)", 1);
        x.then("law y:n");
        C.due(x, "read(2, 0)", 0, "page(0, 1)", 1, "page(1, 1)", 0, "page(2, 1)", 0);
        C.due(Run.of("hall sw2h1;pd9;pd9c1;r;rc1", "law y:n*4+s"), "read(0, 1)", 0, "page(0, 1)", 4, "page(1, 1)", 5);
        C.due(Run.of("hall sw2h1;pd9;pd9c1;r;rc1", "law y:n*4+s"), "read(0, 0)", 0, "page(0, 1)", 9, "page(1, 1)", 8);
    }

    private static void readRefused() {
        C.promise(13, "NONE: no such ones, LOST, too far, it has done a deed.");
        Run x = Run.of("hall sw3h1;pc2;pd1;pc1;rv1;rc2v0", "hare(0)");
        C.still(x, "read(2, 0)", NONE, "read(-1, 0)", NONE, "read(0, 3)", NONE, "read(0, -1)", NONE);
        C.still(x, "read(2147483647, 0)", NONE, "read(0, 2147483647)", NONE, "read(-2147483648, 0)", NONE,
                "read(6, 0)", NONE, "read(0, 12)", NONE);
        C.still(x, "read(0, 1)", NONE);
        C.still(x, "read(0, 0)", NONE, "read(1, 2)", NONE);
        C.due(x, "read(0, 2)", 0, "read(1, 0)", 0);
        C.still(x, "read(0, 2)", NONE, "read(0, 0)", NONE, "read(1, 0)", NONE);
        C.still(Run.of(), "read(0, 0)", NONE);
    }

    private static void recut() {
        C.promise(14, "RECUT: what it SAYS then.");
        C.due(Run.of("hall pt4d1;rb9", "read(0, 0)", "night()"), "page(0, 1)", 0, "recut(0, 0)", 4);
        C.due(twoMemories(), "recut(1, 0)", 5);
        C.due(twoMemories(), "recut(0, 0)", 6);

        C.promise(14, "RECUT: a PAGE that it KNOWS, within SPEED STEPS: it is in its CELL, the PAGE has DEPTH 9 "
                + "and SAYS what it KNOWS (nothing melts).");
        Run x = Run.of("hall sw6h1;pt4d1;pc1d5;rb9v4;r", "read(0, 0)", "night()", "go(0, 4)", "night()");
        C.due(x, "page(0, 1)", 0, "page(1, 1)", 0, "recut(0, 0)", 4, "reader(0, 0)", 0, "reader(0, 4)", 1, "page(0, 1)", 9,
                "page(0, 3)", 4, "page(1, 1)", 0, "memory(0, 0)", 4, "memory(1, 0)", NONE, "count(10)", 9);
        x = Run.of("hall sw3h1;pt4d8;pd3;pc1d5;rb3", "read(0, 0)", "night()");
        C.due(x, "count(10)", 11, "page(0, 1)", 6, "recut(0, 0)", 4, "page(0, 1)", 9, "page(1, 1)", 1, "page(2, 1)", 4);
        C.due(Run.of("hall pd9;rb0", "read(0, 0)", "night()"), "recut(0, 0)", 0, "page(0, 1)", 9);
        C.due(twoMemories(), "recut(1, 0)", 5, "page(0, 3)", 5, "memory(0, 0)", 6, "memory(1, 0)", 5);
    }

    private static void recutRefused() {
        C.promise(14, "NONE: no such ones, not KNOWN, too far, it has done a deed.");
        Run x = Run.of("hall sw4h1;pc0d9;pc1d9;pc2d1;rb0v1;rb0", "read(0, 0)", "night()", "go(0, 1)", "night()", "go(0, 2)",
                "hare(2)", "night()");
        C.still(x, "recut(2, 0)", NONE, "recut(-1, 0)", NONE, "recut(0, 3)", NONE, "recut(0, -1)", NONE);
        C.still(x, "recut(2147483647, 0)", NONE, "recut(0, -2147483648)", NONE, "recut(6, 0)", NONE, "recut(0, 12)", NONE);
        C.still(x, "recut(0, 1)", NONE, "recut(0, 2)", NONE, "recut(1, 0)", NONE);
        C.still(x, "recut(0, 0)", NONE);
        C.due(x, "go(0, 1)", 1, "night()", 4, "recut(0, 0)", 0);
        C.still(x, "recut(0, 0)", NONE);
        C.still(Run.of(), "recut(0, 0)", NONE);
    }

    private static void go() {
        C.promise(15, "GO: STEPS.");
        C.due(Run.of("hall sw6h5;p;rv9c7"), "go(0, 29)", 7, "night()", 1, "go(0, 23)", 1, "night()", 2, "go(0, 18)", 5);

        C.promise(15, "GO: another CELL within SPEED STEPS.");
        Run x = Run.of("hall sw3h3;p;rv3;rv9");
        C.due(x, "go(0, 7)", 3, "reader(0, 0)", 7, "reader(0, 4)", 1, "reader(1, 0)", 0, "go(1, 8)", 4, "reader(1, 0)", 8);
        C.due(Run.of("hall sw3h3;pd9;r"), "go(0, 1)", 1, "page(0, 1)", 9, "reader(0, 5)", 0);

        C.promise(15, "NONE: no such ones, it is there, too far, it has done a deed.");
        x = Run.of("hall sw3h3;p;rv3;rv0c4");
        C.still(x, "go(2, 1)", NONE, "go(-1, 1)", NONE, "go(6, 1)", NONE, "go(2147483647, 1)", NONE,
                "go(-2147483648, 1)", NONE);
        C.still(x, "go(0, 9)", NONE, "go(0, -1)", NONE, "go(0, 29)", NONE, "go(0, 2147483647)", NONE,
                "go(0, -2147483648)", NONE);
        C.still(x, "go(0, 0)", NONE, "go(1, 4)", NONE);
        C.still(x, "go(0, 8)", NONE, "go(1, 3)", NONE, "go(1, 5)", NONE);
        C.still(Run.of("hall sw6h1;p;rv3"), "go(0, 4)", NONE);
        C.due(x, "go(0, 6)", 2);
        C.still(x, "go(0, 7)", NONE, "go(0, 6)", NONE);
        C.still(Run.of(), "go(0, 0)", NONE, "go(0, 1)", NONE);
    }

    private static void tell() {
        C.promise(16, "TELL: how many PAGES more the other one KNOWS.");
        Run x = Run.of("hall pt1d9;pt2d9;pt3d9;rb0;rb0;rb0", "read(0, 0)", "read(1, 1)", "night()", "read(0, 2)", "night()");
        C.due(x.again(), "tell(0, 1)", 2);
        C.due(x.again(), "tell(1, 0)", 1, "tell(0, 1)", 2, "tell(2, 0)", 0);
        C.due(x.again(), "tell(0, 2)", 2, "tell(1, 2)", 1);
        C.due(x.again(), "tell(2, 0)", 0, "reader(2, 4)", 1, "count(12)", 6);
        C.due(x.again(), "tell(0, 1)", 2, "tell(1, 0)", 1, "reader(1, 4)", 1, "tell(2, 0)", 0);

        C.promise(16, "TELL: another READER in the same CELL KNOWS all PAGES as this one does "
                + "that this one KNOWS and the other does not.");
        C.due(x, "tell(0, 1)", 2, "memory(1, 0)", 1, "memory(1, 1)", 2, "memory(1, 2)", 3, "memory(0, 1)", NONE,
                "memory(2, 0)", NONE, "reader(0, 4)", 1, "reader(1, 4)", 0, "count(10)", 27);
        x = twoMemories();
        C.due(x, "tell(0, 1)", 0, "memory(1, 0)", 5, "memory(0, 0)", 6, "tell(1, 0)", 0, "memory(0, 0)", 6,
                "read(2, 1)", 1, "night()", 3, "read(2, 1)", 1, "night()", 4, "go(2, 0)", 5, "night()", 5,
                "tell(1, 2)", 1, "memory(2, 0)", 5, "tell(0, 2)", 0, "memory(2, 0)", 5);
    }

    private static void tellRefused() {
        C.promise(16, "NONE: no such ones, alike, not in one CELL, it has done a deed.");
        Run x = Run.of("hall sw3h1;pd9;r;r;rc1", "read(0, 0)", "night()");
        C.still(x, "tell(3, 0)", NONE, "tell(-1, 0)", NONE, "tell(0, 3)", NONE, "tell(0, -1)", NONE);
        C.still(x, "tell(6, 0)", NONE, "tell(0, 6)", NONE, "tell(2147483647, 0)", NONE, "tell(0, -2147483648)", NONE);
        C.still(x, "tell(0, 0)", NONE, "tell(2, 2)", NONE);
        C.still(x, "tell(0, 2)", NONE, "tell(2, 0)", NONE);
        C.due(x, "tell(0, 1)", 1);
        C.still(x, "tell(0, 1)", NONE);
        C.due(x, "tell(1, 0)", 0);
        C.still(Run.of(), "tell(0, 1)", NONE, "tell(0, 0)", NONE);
        C.still(Run.of("hall p;r"), "tell(0, 1)", NONE);
    }

    private static void night() {
        C.promise(17, "NIGHT: the DAY.");
        C.due(Run.of("hall p;r"), "night()", 1, "count(6)", 1, "night()", 2, "night()", 3, "count(6)", 3);

        C.promise(17, "NONE: no HALL.");
        C.still(Run.of(), "night()", NONE);
        C.still(Run.of("tape p;r"), "night()", NONE);

        C.promise(17, "NIGHT: the DAY is one later (0 at first), COLD FALLS (0 at least), all may do a deed again");
        Run x = Run.of("hall sc9f4;pd9;r;r", "read(0, 0)", "go(1, 1)");
        C.due(x, "count(6)", 0, "hall(2)", 9, "night()", 1, "hall(2)", 5, "reader(0, 4)", 0, "reader(1, 4)", 0,
                "night()", 2, "hall(2)", 1, "night()", 3, "hall(2)", 0, "night()", 4, "hall(2)", 0);
        C.due(Run.of("hall sc9f9;p;r"), "night()", 1, "hall(2)", 0, "night()", 2, "hall(2)", 0);
        C.due(Run.of("hall sc9f0;p;r"), "night()", 1, "hall(2)", 9);

        C.promise(17, "if COLD is 0 then, or the DAY is APRIL or later, each PAGE that is there loses 1.");
        x = Run.of("hall sc3f1a99;pd3;pd1;pc19d9;r");
        C.due(x, "night()", 1, "count(10)", 13, "night()", 2, "hall(2)", 1, "count(10)", 13, "log(0, 3)", 0,
                "night()", 3, "hall(2)", 0, "count(10)", 10, "page(0, 1)", 2, "page(1, 1)", 0, "page(2, 1)", 8, "log(0, 3)", 3,
                "night()", 4, "count(10)", 8, "page(1, 1)", 0, "log(0, 3)", 2);
        x = Run.of("hall sc99f0a2;pd3;pd1;r");
        C.due(x, "night()", 1, "count(10)", 4, "night()", 2, "count(10)", 2, "log(0, 3)", 2, "night()", 3, "count(10)", 1,
                "hall(2)", 99, "night()", 4, "count(10)", 0, "night()", 5, "count(10)", 0, "log(0, 3)", 0);
        C.due(Run.of("hall sf0a1;pd3;r"), "night()", 1, "page(0, 1)", 2);
        C.due(Run.of("hall sc0;pd3;r"), "page(0, 1)", 3, "night()", 1, "page(0, 1)", 2);
        C.due(Run.of("hall sc0a1;pd3;r"), "night()", 1, "page(0, 1)", 2);
    }

    private static void hare() {
        C.promise(18, "HARE: DEPTH lost in all.");
        C.due(Run.of("hall sw3h1;pd5;pd2;pc1;r"), "hare(0)", 5, "hare(0)", 2, "hare(0)", 0, "hare(2)", 0, "hare(1)", 3,
                "count(12)", 5);

        C.promise(18, "HARE: each PAGE that is there in a CELL loses 3 (0 at least).");
        C.due(Run.of("hall sw3h1;pd5;pd2;pc1;pd9;r", "hare(0)"), "page(0, 1)", 2, "page(1, 1)", 0, "page(2, 1)", 5,
                "page(3, 1)", 6);
        C.due(Run.of("hall pd3;r", "hare(0)"), "page(0, 1)", 0);
        C.due(Run.of("hall pd4;r", "hare(0)"), "page(0, 1)", 1, "hare(0)", 1, "page(0, 1)", 0, "hare(0)", 0, "page(0, 1)", 0);
        C.due(Run.of("hall sw6h5;pc29;rc29", "go(0, 28)"), "hare(29)", 3, "reader(0, 4)", 1, "count(6)", 0);

        C.promise(18, "NONE: no such CELL.");
        C.still(Run.of("hall sw3h2;p;r", "hare(0)"), "hare(6)", NONE, "hare(-1)", NONE, "hare(29)", NONE, "hare(30)", NONE,
                "hare(2147483647)", NONE, "hare(-2147483648)", NONE);
        C.still(Run.of(), "hare(0)", NONE);
        C.due(Run.of("hall sw3h2;p;r"), "hare(5)", 0);
    }

    private static void undo() {
        C.promise(20, "The latest ACT is UNDONE: how many still can be.");
        Run x = Run.of("hall sw3h1c60f9;pt1d5;pc1t2d9;rv0;rc1v2");
        String[] acts = {"read(0, 0)", "night()", "recut(0, 0)", "go(1, 0)", "night()", "tell(0, 1)", "read(1, 1)", "hare(0)",
            "hare(2)"};
        for (int i = 0; i < acts.length; i++) {
            String ahead = x.again().now();
            C.due(acts[i] + " changes something", x.again().then(acts[i]).now().equals(ahead), false);
            C.due(x.again().then(acts[i]), "undo()", i);
            C.due(acts[i] + " is as not done, undone", x.again().then(acts[i]).then("undo()").now().equals(ahead), true);
            x.then(acts[i]);
        }
        for (int i = acts.length - 1; i >= 0; i--) {
            C.due(x, "count(12)", i + 1, "undo()", i);
        }
        C.due("all undone", x.now().equals(Run.of("hall sw3h1c60f9;pt1d5;pc1t2d9;rv0;rc1v2").now()), true);
        C.due(Run.of("hall p;r", "night()", "undo()"), "night()", 1, "undo()", 0, "read(0, 0)", 0, "count(12)", 1);
        x = Run.of("hall pd9;r", "night()", "law y:1", "slips(3)", "plan n", "tape abc", "read(0, 0)");
        C.due(x, "undo()", 1, "undo()", 0, "count(5)", 0, "count(8)", 3, "count(3)", 1, "count(4)", 3, "melt(0, 0, 0)", 1);

        C.promise(20, "NONE: none.");
        C.still(Run.of("hall p;r"), "undo()", NONE);
        C.still(Run.of(), "undo()", NONE);
        C.still(Run.of("hall p;r", "night()", "undo()"), "undo()", NONE);
        C.still(Run.of("hall p;r", "night()", "hall p;r"), "undo()", NONE);
        C.still(Run.of("hall p;r", "law y:1", "slips(5)", "plan n", "image()", "read(0, 3)", "hare(-1)"), "undo()", NONE);
    }

    private static void undoFull() {
        C.promise(20, "All these are ACTS: the latest 40 can be UNDONE one by one (LOG, too).");
        Run x = Run.of("hall sw6h5;pd9;r");
        for (int i = 0; i < 41; i++) {
            C.due(x, "count(12)", Math.min(i, 40));
            x.then("hare(" + i % 30 + ")");
        }
        C.due(x, "count(12)", 40, "page(0, 1)", 3);
        for (int i = 39; i >= 0; i--) {
            C.due(x, "log(0, 2)", (i + 1) % 30, "undo()", i, "count(11)", i + 1);
        }
        C.due(x, "undo()", NONE, "page(0, 1)", 6, "count(11)", 1, "log(0, 2)", 0, "hare(0)", 3, "undo()", 0, "page(0, 1)", 6);

        // All kinds of ACTS at once, then one of them less.
        x = Run.of("hall sc99;pd9;rb0;rb0", "read(0, 0)", "night()", "recut(0, 0)", "go(1, 1)", "night()", "go(1, 0)",
                "tell(0, 1)", "hare(0)", "centuries(2, 1)");
        C.due(x, "count(12)", 12, "count(11)", 12, "undo()", 11, "count(11)", 11, "log(0, 0)", 0, "log(0, 1)", 1);
    }

    private static void log() {
        C.promise(21, "LOG, the latest (i 0), the one ahead of it (1) ..: 0 what, 1 who (NONE), 2 which (NONE), 3 DEPTH lost.");
        Run x = Run.of("hall sw3h1;pt1d5;pc1t2d9;rv1;rc1", "read(0, 0)", "night()", "go(0, 1)");
        row(x, 0, 2, 0, 1, 0);
        row(x, 1, 4, NONE, NONE, 0);
        row(x, 2, 0, 0, 0, 3);
        C.due(x, "undo()", 2);
        row(x, 0, 4, NONE, NONE, 0);
        row(x, 1, 0, 0, 0, 3);

        C.promise(21, "HIDDEN: no such ones.");
        C.still(x, "log(2, 0)", HIDDEN, "log(-1, 0)", HIDDEN, "log(0, 4)", HIDDEN, "log(0, -1)", HIDDEN);
        C.still(x, "log(2147483647, 0)", HIDDEN, "log(-2147483648, 0)", HIDDEN, "log(0, 2147483647)", HIDDEN);
        C.still(Run.of(), "log(0, 0)", HIDDEN);
        C.still(Run.of("hall p;r"), "log(0, 0)", HIDDEN);
        C.due(Run.of("hall p;r", "night()", "hall p;r"), "log(0, 0)", HIDDEN, "count(11)", 0);

        C.promise(21, "0 READ, 1 RECUT, 2 GO, 3 TELL, 4 NIGHT, 5 HARE; who (READER; NONE), what (PAGE, CELL, "
                + "the other READER; NONE), DEPTH lost by it in all.");
        x = Run.of("hall sw3h1c0;pd9;pc2d5;pc2d1;rc1v1b0;rc2", "read(1, 2)");
        row(x, 0, 0, 1, 2, 5);
        row(x.then("night()"), 0, 4, NONE, NONE, 2);
        row(x.then("recut(1, 2)"), 0, 1, 1, 2, 0);
        row(x.then("go(0, 2)"), 0, 2, 0, 2, 0);
        row(x.then("night()"), 0, 4, NONE, NONE, 2);
        row(x.then("tell(1, 0)"), 0, 3, 1, 0, 0);
        row(x.then("hare(2)"), 0, 5, NONE, 2, 3);
        row(x.then("hare(1)"), 0, 5, NONE, 1, 0);
    }

    private static void logFull() {
        C.promise(21, "LOG: what was done (the latest 60)");
        Run x = Run.of("hall sw6h5;pd9;r");
        for (int i = 0; i < 75; i++) {
            C.due(x, "count(11)", Math.min(60, i));
            x.then("hare(" + i % 30 + ")");
        }
        C.due(x, "count(11)", 60, "log(60, 0)", HIDDEN);
        for (int i = 0; i < 60; i++) {
            C.due(x, "log(" + i + ", 2)", (74 - i) % 30);
        }
        // UNDONE, the LOG is as it was ahead of those ACTS: with 60 of the 65 that were done then.
        for (int i = 0; i < 10; i++) {
            C.due(x, "undo()", 39 - i, "count(11)", 60);
        }
        for (int i = 0; i < 60; i++) {
            C.due(x, "log(" + i + ", 2)", (64 - i) % 30);
        }
        for (int i = 10; i < 40; i++) {
            C.due(x, "undo()", 39 - i, "count(11)", Math.min(60, 74 - i));
        }
        C.due(x, "log(0, 2)", 34 % 30, "log(34, 2)", 0, "log(35, 2)", HIDDEN, "undo()", NONE);
    }

    private static void refused() {
        C.promise(13, "What is refused answers as told and changes nothing.");
        Run x = Run.of("hall sw3h2;pd9t1;pc5d9t2;rv1;rc1v1", "plan r01;n", "image()", "read(0, 0)", "night()", "read(1, 0)",
                "tape p");
        C.still(x, "read(0, 1)", NONE, "read(1, 0)", NONE, "recut(0, 1)", NONE, "recut(1, 0)", NONE, "go(0, 5)", NONE,
                "go(0, 0)", NONE, "tell(1, 0)", NONE, "tell(0, 0)", NONE, "hare(6)", NONE, "centuries(0, 1)", NONE,
                "centuries(61, 1)", NONE);
        C.still(x, "text(0)", NONE, "text(1)", NONE, "text(2)", NONE, "end(2)", 0, "law(0)", 0, "slips(0)", 0, "slips(100)", 0,
                "perform(1)", NONE, "perform(-1)", NONE, "perform(0)", 0, "run(1, 0)", HIDDEN);
        C.due("a PLAN whose first STEP can't be changes nothing", x.ask("perform(0)"), 0);
        C.due(x, "count(12)", 3, "undo()", 2);
    }
}
