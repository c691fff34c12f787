/** Promises 6 to 12: what is told of a HALL, its PAGES and READERS; LAWS, SLIPS, MELT. */
final class HallTest {
    private static final Check C = new Check("HallTest");
    private static final int NONE = SnowBooks.NONE;

    public static void main(String[] args) {
        hall();
        rules();
        page();
        pageItems();
        reader();
        readerItems();
        deedsOfADay();
        memory();
        law();
        worth();
        numbers();
        slips();
        meltNear();
        meltByBreath();
        meltByLaw();
        meltLetters();
        meltRefused();
        C.end();
    }

    /** Each number within the bounds is told by the call, the usual one without the item; others are FAULTS. */
    private static void item(String text, String letter, int low, int high, int usual, String call) {
        int at = text.indexOf('#');
        C.due(Run.of("hall " + text.replace("#", "")), call, usual);
        for (int i = low; i <= high; i++) {
            C.due(Run.of("hall " + text.replace("#", letter + i)), call, i);
            C.due(Run.of("hall " + text.replace("#", letter + i / 10 + i % 10)), call, i);
        }
        for (int i = 0; i < 100; i++) {
            if (i < low || i > high) {
                C.fault(0, text.replace("#", letter + i), at + (i > 9 ? 2 : 1));
            }
        }
    }

    private static void hall() {
        C.promise(6, "0 WIDTH, 1 HEIGHT, 2 COLD now, 3 by which it FALLS, 4 APRIL.");
        Run x = Run.of("hall sw6h3c30f7a9;p;r");
        C.still(x, "hall(0)", 6, "hall(1)", 3, "hall(2)", 30, "hall(3)", 7, "hall(4)", 9);
        C.due(x, "night()", 1, "hall(2)", 23, "night()", 2, "night()", 3, "night()", 4, "hall(2)", 2, "night()", 5,
                "hall(2)", 0, "night()", 6, "hall(2)", 0, "hall(3)", 7, "hall(4)", 9);

        C.promise(6, "NONE: no HALL, no such what.");
        C.still(Run.of(), "hall(0)", NONE, "hall(1)", NONE, "hall(2)", NONE, "hall(3)", NONE, "hall(4)", NONE);
        C.still(Run.of("tape p;r"), "hall(2)", NONE);
        C.still(x, "hall(5)", NONE, "hall(-1)", NONE, "hall(2147483647)", NONE, "hall(-2147483648)", NONE);
    }

    private static void rules() {
        C.promise(6, "of s: w WIDTH (1 .. 6; 5 without)");
        item("sh1#;p;r", "w", 1, 6, 5, "hall(0)");
        C.due(Run.of("hall p;r"), "hall(0)", 5, "count(7)", 20);

        C.promise(6, "h HEIGHT (1 .. 5; 4)");
        item("sw1#;p;r", "h", 1, 5, 4, "hall(1)");

        C.promise(6, "c COLD (0 .. 99; 40)");
        item("sw1#;p;r", "c", 0, 99, 40, "hall(2)");

        C.promise(6, "f by which COLD FALLS a day (0 .. 9; 1)");
        item("sw1#;p;r", "f", 0, 9, 1, "hall(3)");
        C.due(Run.of("hall p;r"), "night()", 1, "hall(2)", 39);

        C.promise(6, "a APRIL (1 .. 99; 60)");
        item("sw1#;p;r", "a", 1, 99, 60, "hall(4)");
    }

    private static void page() {
        C.promise(7, "Of a PAGE: 0 CELL, 1 DEPTH (0: LOST), 2 BOOK, 3 what it SAYS.");
        Run x = Run.of("hall pc7d8b2t9;pc3d2b1t4;r");
        C.still(x, "page(0, 0)", 7, "page(0, 1)", 8, "page(0, 2)", 2, "page(0, 3)", 9);
        C.still(x, "page(1, 0)", 3, "page(1, 1)", 2, "page(1, 2)", 1, "page(1, 3)", 4);
        C.due(x.again(), "hare(3)", 2, "page(1, 1)", 0, "page(1, 0)", 3, "page(1, 2)", 1, "page(1, 3)", 4);

        C.promise(7, "NONE: no such ones.");
        C.still(x, "page(2, 0)", NONE, "page(-1, 1)", NONE, "page(12, 0)", NONE, "page(2147483647, 3)", NONE);
        C.still(x, "page(0, 4)", NONE, "page(0, -1)", NONE, "page(0, -2147483648)", NONE);
        C.still(Run.of(), "page(0, 0)", NONE, "page(0, 1)", NONE, "page(0, 3)", NONE);
        C.due(Run.of("hall p;p;r", "hall p;r"), "page(1, 0)", NONE, "page(1, 1)", NONE);

        C.promise(7, "A PAGE is there as long as its DEPTH is above 0; else it is LOST.");
        x = Run.of("hall pd4t3;r", "hare(0)");
        C.due(x, "page(0, 1)", 1, "count(9)", 0, "left(0)", 1, "melt(0, 0, 0)", 2, "last(0)", 40);
        C.due(x, "hare(0)", 1, "page(0, 1)", 0, "count(9)", 1, "left(0)", 0, "melt(0, 0, 0)", NONE, "read(0, 0)", NONE,
                "hare(0)", 0, "page(0, 1)", 0, "last(0)", 0);
    }

    private static void pageItems() {
        C.promise(7, "of p: c CELL (0 .. 29; 0)");
        item("sw6h5;p#;r", "c", 0, 29, 0, "page(0, 0)");

        C.promise(7, "d DEPTH (1 .. 9; 5)");
        item("p#;r", "d", 1, 9, 5, "page(0, 1)");

        C.promise(7, "b BOOK (0 .. 4; 0)");
        item("p#;r", "b", 0, 4, 0, "page(0, 2)");

        C.promise(7, "t what it SAYS (0 .. 9; 0)");
        item("p#;r", "t", 0, 9, 0, "page(0, 3)");
    }

    private static void reader() {
        C.promise(8, "Of a READER: 0 CELL, 1 BREATH, 2 SPEED, 3 the BOOK it NEEDS, 4 whether it has done a deed today (1, 0), "
                + "5 PAGES it KNOWS (bits).");
        Run x = Run.of("hall pd9;pc1d9;pc2d9;rc2b0v9n4;rc3b1v2n1");
        C.still(x, "reader(0, 0)", 2, "reader(0, 1)", 0, "reader(0, 2)", 9, "reader(0, 3)", 4, "reader(0, 4)", 0,
                "reader(0, 5)", 0);
        C.still(x, "reader(1, 0)", 3, "reader(1, 1)", 1, "reader(1, 2)", 2, "reader(1, 3)", 1);
        x.then("read(0, 0)");
        C.still(x, "reader(0, 0)", 0, "reader(0, 4)", 1, "reader(0, 5)", 1, "reader(1, 4)", 0, "reader(1, 5)", 0);
        x.then("night()").then("read(0, 2)");
        C.due(x, "reader(0, 5)", 5, "reader(0, 4)", 1, "night()", 2, "reader(0, 4)", 0, "reader(0, 5)", 5,
                "read(1, 1)", 0, "reader(1, 5)", 2, "reader(1, 4)", 1, "reader(0, 4)", 0);

        C.promise(8, "NoSuchElementException: no such ones.");
        C.still(x, "reader(2, 0)", Run.THROWS, "reader(-1, 0)", Run.THROWS, "reader(6, 0)", Run.THROWS,
                "reader(2147483647, 5)", Run.THROWS, "reader(-2147483648, 0)", Run.THROWS);
        C.still(x, "reader(0, 6)", Run.THROWS, "reader(0, -1)", Run.THROWS, "reader(1, 2147483647)", Run.THROWS);
        C.still(Run.of(), "reader(0, 0)", Run.THROWS, "reader(0, 5)", Run.THROWS);
        C.due(Run.of("hall p;r;r", "hall p;r"), "reader(1, 0)", Run.THROWS);
    }

    private static void readerItems() {
        C.promise(8, "of r: c CELL (0 .. 29; 0)");
        item("sw6h5;p;r#", "c", 0, 29, 0, "reader(0, 0)");

        C.promise(8, "b BREATH (0 .. 9; 3)");
        item("p;r#", "b", 0, 9, 3, "reader(0, 1)");

        C.promise(8, "v SPEED (0 .. 9; 3)");
        item("p;r#", "v", 0, 9, 3, "reader(0, 2)");

        C.promise(8, "n the BOOK that it NEEDS (0 .. 4; 0).");
        item("p;r#", "n", 0, 4, 0, "reader(0, 3)");
    }

    private static void deedsOfADay() {
        C.promise(8, "Each READER may do one deed a day: READ, RECUT, GO, or TELL.");
        String[] deeds = {"read(0, 0)", "recut(0, 0)", "go(0, 1)", "tell(0, 1)"};
        for (String first : deeds) {
            Run x = Run.of("hall pd9;r;r", "read(0, 0)", "read(1, 0)", "night()");
            C.due(x, "reader(0, 4)", 0);
            C.due(x + " " + first + " can be", x.again().ask(first) >= 0, true);
            x.then(first);
            C.due(x, "reader(0, 4)", 1, "reader(1, 4)", 0);
            C.still(x, deeds[0], NONE, deeds[1], NONE, deeds[2], NONE, deeds[3], NONE, "go(0, 0)", NONE, "go(0, 2)", NONE);
            C.due(x, "recut(1, 0)", 0, "reader(1, 4)", 1, "recut(1, 0)", NONE, "night()", 2, "reader(0, 4)", 0,
                    "reader(1, 4)", 0, "go(0, 2)", "go(0, 1)".equals(first) ? 1 : 2);
        }
    }

    private static void memory() {
        C.promise(9, "What a READER KNOWS of a PAGE.");
        Run x = Run.of("hall pt3d9;pt0d9;r;r", "read(0, 0)", "read(1, 1)");
        C.still(x, "memory(0, 0)", 3, "memory(1, 1)", 0);
        C.due(x, "hare(0)", 6, "hare(0)", 4, "hare(0)", 0, "page(0, 1)", 0, "memory(0, 0)", 3, "memory(1, 1)", 0);

        C.promise(9, "NONE: nothing, no such ones.");
        C.still(x, "memory(0, 1)", NONE, "memory(1, 0)", NONE);
        C.still(x, "memory(2, 0)", NONE, "memory(-1, 0)", NONE, "memory(0, 2)", NONE, "memory(0, -1)", NONE);
        C.still(x, "memory(0, 12)", NONE, "memory(1, -12)", NONE, "memory(2147483647, 0)", NONE,
                "memory(0, -2147483648)", NONE);
        C.still(Run.of(), "memory(0, 0)", NONE);
        C.due(Run.of("hall p;p;r;r", "read(1, 1)", "hall p;r"), "memory(1, 1)", NONE, "memory(0, 0)", NONE);
    }

    private static void law() {
        C.promise(10, "The LAW that holds (NONE: none).");
        Run x = Run.of("hall pd7;r", "law y:7", "law y:6", "law(-1)");
        C.due(x, "count(5)", NONE, "melt(0, 0, 0)", 2, "law(0)", 1, "count(5)", 0, "melt(0, 0, 0)", 7, "law(0)", 1,
                "law(1)", 1, "count(5)", 1, "melt(0, 0, 0)", 6, "law(-1)", 1, "count(5)", NONE, "melt(0, 0, 0)", 2,
                "law(-1)", 1, "count(5)", NONE);
        C.due("none holds at first", Run.of("hall p;r", "tape y:7").ask("text(1)"), 0);
        C.due(Run.of(), "law(-1)", 1, "count(5)", NONE);
        C.due(Run.of("law y:7"), "count(5)", 0);

        C.promise(10, "False: no such one.");
        C.still(Run.of("hall p;r", "law y:7", "law y:8"), "law(2)", 0, "law(-2)", 0, "law(4)", 0, "law(2147483647)", 0,
                "law(-2147483648)", 0);
        C.still(Run.of(), "law(0)", 0);
        Run full = Run.of("hall p;r", "law y:6", "law y:7", "law y:8", "law y:5");
        C.still(full, "law(4)", 0, "law(5)", 0, "law(-2)", 0);
    }

    /** MELT by a law of a PAGE of DEPTH 7 by a READER of BREATH 3 at COLD 40 on DAY 0, alone, in its CELL. */
    private static void worthIs(String law, int want) {
        C.due(Run.of("hall pd7;r", "law " + law), "melt(0, 0, 0)", want);
    }

    private static void worth() {
        C.promise(10, "WORTH of a LAW: the SUM of the first CLAUSE whose CONDITION holds (or has none), 0 without.");
        worthIs("y:4;y:5", 4);
        worthIs("y:1=1?2;y:3", 2);
        worthIs("y:1=2?2;y:3", 3);
        worthIs("y:1=2?2", 0);
        worthIs("y:1=2?2;y:2=3?4;y:3=4?5", 0);
        worthIs("y:1=2?2;y:2=3?4;y:b=3?5;y:6", 5);
        worthIs("y:1=2?2;y:2=2?4;y:b=3?5;y:6", 4);
        worthIs("y:1=2?2;y:8;y:1=1?5", 8);
        worthIs("y:1<2?3;y:4", 3);
        worthIs("y:2<2?3;y:4", 4);
        worthIs("y:3<2?3;y:4", 4);
        worthIs("y:1>2?3;y:4", 4);
        worthIs("y:2>2?3;y:4", 4);
        worthIs("y:3>2?3;y:4", 3);
        worthIs("y:2=2?3;y:4", 3);
        worthIs("y:!1=1?2;y:3", 3);
        worthIs("y:!1<2?2;y:3", 3);
        worthIs("y:!2>1?2;y:3", 3);
        worthIs("y:!2<1?2;y:3", 2);
        worthIs("y:!1>2?2;y:3", 2);
        worthIs("y:1<2&2>1&1=1?2;y:3", 2);
        worthIs("y:!!1=1?2;y:3", 2);
        worthIs("y:!!!!!1=1?2;y:3", 3);
        worthIs("y:1=1|1=2?2;y:3", 2);
        worthIs("y:1=2|1=1?2;y:3", 2);
        worthIs("y:1=2|1=3?2;y:3", 3);
        worthIs("y:1=1|1=1?2;y:3", 2);
        worthIs("y:1=1&1=2?2;y:3", 3);
        worthIs("y:1=2&1=1?2;y:3", 3);
        worthIs("y:1=1&1=1?2;y:3", 2);
        worthIs("y:1=1|1=1&1=2?2;y:3", 2);
        worthIs("y:(1=1|1=1)&1=2?2;y:3", 3);
        worthIs("y:1=2&1=1|1=1?2;y:3", 2);
        worthIs("y:1=2&(1=1|1=1)?2;y:3", 3);
        worthIs("y:!1=2&1=2?2;y:3", 3);
        worthIs("y:!(1=2&1=2)?2;y:3", 2);
        worthIs("y:!1=1|1=1?2;y:3", 2);
        worthIs("y:1+1*2=3&[1+1]*2=4?2;y:3", 2);
        worthIs("y:[1]=1?2;y:3", 2);
    }

    private static void numbers() {
        C.promise(10, "Behind each sign numbers are within -1,000,000 .. 1,000,000");
        worthIs("y:9999*100+99-9999*100-96", 3);
        worthIs("y:9999*100+100-9999*100-96", 4);
        worthIs("y:9999*100+101-9999*100-96", 4);
        worthIs("y:9999*100-[0-101]-9999*100-96", 4);
        worthIs("y:9999*9999-9999*100-95", 5);
        worthIs("y:1000*1000-9999*100-95", 5);
        worthIs("y:1001*999-9999*100-95", 4);
        worthIs("y:1001*1000-9999*100-95", 5);
        worthIs("y:0-9999*100-99+9999*100+104", 5);
        worthIs("y:0-9999*100-100+9999*100+104", 4);
        worthIs("y:0-9999*100-101+9999*100+104", 4);
        worthIs("y:[0-9999*100]+[0-101]+9999*100+104", 4);
        worthIs("y:[0-1000]*1000+9999*100+104", 4);
        worthIs("y:[0-1001]*1000+9999*100+104", 4);
        worthIs("y:[0-9999]*9999+9999*100+104", 4);
        worthIs("y:[0-9999]*[0-9999]-9999*100-95", 5);
        worthIs("y:9999*9999/9999-95", 5);
        worthIs("y:9999*9999=1000*1000?4;y:5", 4);
        worthIs("y:9999*9999>9999*1000?5;y:4", 4);
        worthIs("y:[9999*9999+9999*9999]/1000/200", 5);

        C.promise(10, "/ cuts towards 0, by 0 gives 0.");
        worthIs("y:7/2", 3);
        worthIs("y:8/2", 4);
        worthIs("y:1/2", 0);
        worthIs("y:[0-7]/2+9", 6);
        worthIs("y:7/[0-2]+9", 6);
        worthIs("y:[0-7]/[0-2]", 3);
        worthIs("y:[0-1]/2+9", 9);
        worthIs("y:5/0", 0);
        worthIs("y:5/0+4", 4);
        worthIs("y:[0-5]/0+4", 4);
        worthIs("y:0/0+4", 4);
        worthIs("y:5/t+4", 4);
        worthIs("y:5/[3-3]=0?4;y:5", 4);
        worthIs("y:0/5+4", 4);

        C.promise(10, "SUM: TERMS with + or - between; TERM: ATOMS with * or / between");
        worthIs("y:2+3*2", 8);
        worthIs("y:2*3+2", 8);
        worthIs("y:[2+1]*2", 6);
        worthIs("y:9-3-2", 4);
        worthIs("y:9-3+2", 8);
        worthIs("y:9-[3+2]", 4);
        worthIs("y:8/2/2", 2);
        worthIs("y:8/2*2", 8);
        worthIs("y:7/2*2", 6);
        worthIs("y:8/[2*2]", 2);
        worthIs("y:2*7/2", 7);
        worthIs("y:0007", 7);
    }

    private static void slips() {
        C.promise(11, "SLIPS (0 .. 99).");
        C.due(Run.of(), "count(8)", 0, "slips(99)", 1, "count(8)", 99, "slips(0)", 1, "count(8)", 0, "slips(1)", 1,
                "count(8)", 1, "slips(98)", 1, "count(8)", 98);

        C.promise(11, "False: out of bounds, it is so.");
        C.still(Run.of("slips(5)"), "slips(100)", 0, "slips(-1)", 0, "slips(2147483647)", 0, "slips(-2147483648)", 0);
        C.still(Run.of("slips(5)"), "slips(5)", 0);
        C.still(Run.of("slips(99)"), "slips(99)", 0);
        C.still(Run.of(), "slips(0)", 0);
    }

    private static void meltNear() {
        C.promise(12, "CELLS: row by row, WIDTH to a ROW; STEPS between two: rows and columns apart, together.");
        // WIDTH 3: CELL 4 is the middle one of 0 1 2 / 3 4 5 / 6 7 8.
        Run x = Run.of("hall sw3h3;pc4;r", "law y:9");
        int[] near = {0, 9, 0, 9, 9, 9, 0, 9, 0};
        for (int cell = 0; cell < 9; cell++) {
            C.due(x, "melt(0, 0, " + cell + ")", near[cell]);
        }
        x = Run.of("hall sw5h2;pc5;r", "law y:9");
        C.due(x, "melt(0, 0, 4)", 0, "melt(0, 0, 6)", 9, "melt(0, 0, 0)", 9, "melt(0, 0, 9)", 0, "melt(0, 0, 1)", 0);
        x = Run.of("hall sw6h5;pc29;rv9");
        C.due(x.again(), "go(0, 29)", 9);
        C.due(x.again(), "go(0, 5)", 5);
        C.due(x.again(), "go(0, 6)", 1);
        C.due(x.again(), "go(0, 24)", 4);
        C.due(x, "go(0, 16)", 6, "night()", 1, "go(0, 9)", 2, "night()", 2, "go(0, 18)", 5);

        C.promise(12, "MELT of a PAGE by a READER in a CELL: 0, if it is more than 1 STEP away");
        x = Run.of("hall sw3h1;pd9;pc2d9;rb9c2");
        C.still(x, "melt(0, 0, 2)", 0, "melt(0, 0, 1)", 7, "melt(0, 1, 0)", 0, "melt(0, 1, 1)", 7);
        x.then("law y:9");
        C.still(x, "melt(0, 0, 2)", 0, "melt(0, 0, 1)", 9, "melt(0, 0, 0)", 9);
    }

    private static void meltByBreath() {
        C.promise(12, "else WORTH by the LAW that holds (none at first: BREATH less a twentieth of COLD, cut, "
                + "and 1 more in that very CELL)");
        String[] colds = {"0", "19", "20", "39", "40", "59", "60", "79", "80", "99"};
        for (int i = 0; i < colds.length; i++) {
            Run x = Run.of("hall sc" + colds[i] + ";pd9;rb7");
            C.due(x, "melt(0, 0, 1)", 7 - i / 2, "melt(0, 0, 0)", 8 - i / 2, "melt(0, 0, 5)", 7 - i / 2);
        }
        Run x = Run.of("hall sc21;pd9;rb7");
        C.due(x, "melt(0, 0, 1)", 6, "night()", 1, "melt(0, 0, 1)", 6, "night()", 2, "hall(2)", 19, "melt(0, 0, 1)", 7);

        C.promise(12, "held within 0 .. 9");
        C.due(Run.of("hall sc0;pd9;rb9;rb8"), "melt(0, 0, 0)", 9, "melt(0, 0, 1)", 9, "melt(1, 0, 0)", 9, "melt(1, 0, 1)", 8);
        C.due(Run.of("hall sc99;pd9;rb0;rb3;rb4"), "melt(0, 0, 0)", 0, "melt(0, 0, 1)", 0, "melt(1, 0, 0)", 0,
                "melt(1, 0, 1)", 0, "melt(2, 0, 0)", 1, "melt(2, 0, 1)", 0);
        worthIs("y:9", 9);
        worthIs("y:10", 9);
        worthIs("y:9999*9999", 9);
        worthIs("y:0-1", 0);
        worthIs("y:0-9999*9999", 0);
        worthIs("y:1-1", 0);
        C.due(Run.of("hall pd1;rb9"), "melt(0, 0, 0)", 8);
    }

    private static void meltByLaw() {
        C.promise(12, "MELT of a PAGE by a READER in a CELL now.");
        Run x = Run.of("hall sw3h1c30f9;pd9;pc1d3;rb4;rb7");
        C.still(x, "melt(0, 0, 0)", 4, "melt(0, 0, 1)", 3, "melt(0, 1, 0)", 3, "melt(0, 1, 1)", 4, "melt(1, 0, 0)", 7,
                "melt(1, 1, 2)", 6);
        C.due(x, "night()", 1, "hall(2)", 21, "melt(0, 0, 0)", 4, "night()", 2, "hall(2)", 12, "melt(0, 0, 0)", 5);
        x.then("law y:d+t");
        C.due(x, "melt(0, 0, 0)", 9, "melt(0, 1, 0)", 5, "night()", 3, "melt(0, 1, 0)", 6, "hare(1)", 3,
                "melt(0, 1, 0)", NONE, "hare(0)", 3, "melt(0, 0, 0)", 9, "hare(0)", 3, "melt(0, 0, 0)", 6);
        C.due(Run.of("hall pd7;r", "law y:d", "read(0, 0)"), "reader(0, 4)", 1, "page(0, 1)", 0);
        C.due(Run.of("hall pd7;r", "law y:d-3", "read(0, 0)"), "page(0, 1)", 3, "melt(0, 0, 0)", 0);
    }

    private static void meltLetters() {
        C.promise(12, "letters: b BREATH, c COLD, d DEPTH, s STEPS (0, 1), "
                + "n how many other READERS are in that CELL, t the DAY.");
        Run x = Run.of("hall sw3h1c8f2;pc1d7;rb2;rc1b4;rc1b9;rc2b0");
        x.then("law y:b");
        C.due(x, "melt(0, 0, 1)", 2, "melt(1, 0, 1)", 4, "melt(2, 0, 1)", 9, "melt(3, 0, 1)", 0);
        x.then("law y:c");
        C.due(x, "melt(0, 0, 1)", 8);
        x.then("law y:d");
        C.due(x, "melt(0, 0, 1)", 7, "hare(1)", 3, "melt(0, 0, 1)", 4);
        x.then("law y:s*5+n");
        C.due(x, "melt(0, 0, 1)", 2, "melt(1, 0, 1)", 1, "melt(3, 0, 1)", 2, "melt(0, 0, 0)", 5, "melt(1, 0, 0)", 6,
                "melt(1, 0, 2)", 6, "melt(3, 0, 2)", 5);
        C.due(x, "go(2, 2)", 1, "melt(0, 0, 1)", 1, "melt(3, 0, 2)", 6);
        x = Run.of("hall sc9f2;pd9;r", "law y:t");
        C.due(x, "melt(0, 0, 0)", 0, "night()", 1, "melt(0, 0, 0)", 1, "night()", 2, "melt(0, 0, 0)", 2);
        x.then("law y:c");
        C.due(x, "melt(0, 0, 0)", 5, "night()", 3, "melt(0, 0, 0)", 3);
        C.due(Run.of("hall p;r;r;r;r;r;r", "law y:n"), "melt(0, 0, 0)", 5, "melt(5, 0, 1)", 0);
    }

    private static void meltRefused() {
        C.promise(12, "NONE: no such ones, LOST.");
        Run x = Run.of("hall sw3h2;pd9;pc1d1;r;r", "hare(1)");
        C.still(x, "melt(2, 0, 0)", NONE, "melt(-1, 0, 0)", NONE, "melt(0, 2, 0)", NONE, "melt(0, -1, 0)", NONE);
        C.still(x, "melt(0, 0, 6)", NONE, "melt(0, 0, -1)", NONE, "melt(0, 0, 29)", NONE, "melt(0, 0, 5)", 0);
        C.still(x, "melt(0, 1, 1)", NONE, "melt(0, 1, 0)", NONE, "melt(1, 1, 5)", NONE);
        C.still(x, "melt(2147483647, 0, 0)", NONE, "melt(0, -2147483648, 0)", NONE, "melt(0, 0, 2147483647)", NONE);
        C.still(Run.of("law y:9"), "melt(0, 0, 0)", NONE);
    }
}
