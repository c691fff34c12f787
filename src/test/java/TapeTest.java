/** Promises 1 to 5: a new object, the TAPE, FAULTS and TEXTS. */
final class TapeTest {
    private static final Check C = new Check("TapeTest");
    private static final int NONE = SnowBooks.NONE;
    private static final int HIDDEN = SnowBooks.HIDDEN;
    private static final String FOUR_BLANKS = "538976288";

    public static void main(String[] args) {
        newObject();
        feed();
        end();
        faultSorts();
        hallClauses();
        hallItems();
        lawText();
        lawNested();
        planText();
        blanks();
        faultAtEnd();
        faultInside();
        faultNumbers();
        faultOnceTooOften();
        hallTaken();
        whatOutlives();
        lawsAndPlansTaken();
        textRefused();
        C.end();
    }

    private static String many(String word, int times) {
        StringBuilder text = new StringBuilder();
        for (int i = 0; i < times; i++) {
            text.append(i == 0 ? "" : ";").append(word);
        }
        return text.toString();
    }

    private static void newObject() {
        C.promise(1, "No HALL.");
        Run x = Run.of();
        int[] counts = {0, 0, 0, 0, 0, NONE, 0, 0, 0, 0, 0, 0, 0};
        for (int i = 0; i < counts.length; i++) {
            C.due(x, "count(" + i + ")", counts[i]);
        }
        C.still(x, "hall(0)", NONE, "page(0, 0)", NONE, "reader(0, 0)", Run.THROWS, "memory(0, 0)", NONE,
                "melt(0, 0, 0)", NONE, "read(0, 0)", NONE, "recut(0, 0)", NONE, "go(0, 0)", NONE, "go(0, 1)", NONE,
                "tell(0, 1)", NONE, "night()", NONE, "hare(0)", NONE, "centuries(1, 1)", NONE, "undo()", NONE,
                "log(0, 0)", HIDDEN, "step(0, 0, 0)", HIDDEN, "run(0, 0)", HIDDEN, "perform(0)", NONE);
        C.still(x, "loss(0, 0)", NONE, "left(0)", NONE, "last(0)", NONE, "order(0, 0, 0)", HIDDEN, "share(0, 0)", NONE,
                "who(0)", NONE, "first()", NONE, "placeFor(0, 0)", NONE, "needy()", NONE, "known()", NONE,
                "sure()", NONE, "split()", NONE, "likely(0, 0)", NONE, "breathed(0, 0, 0, -1)", NONE,
                "learnt(0)", NONE, "quiet(0, 0)", NONE, "far()", NONE, "image()", NONE, "back()", NONE);
        C.still(x, "exam(1, 1, 50)", 500000000, "law(-1)", 1, "law(0)", 0, "slips(0)", 0, "fault(0)", 0, "end(0)", 1);
        C.due(Run.of("plan n"), "run(0, 0)", HIDDEN, "perform(0)", NONE, "step(0, 0, 0)", 3);
    }

    private static void feed() {
        C.promise(2, "Twenty bytes more come to the TAPE (of each number the highest first");
        // 'p' ' ' ';' ' ', 'r', 'b', '4', 'c' each the lowest of its number, is "p ; rb4c"; then '1'.
        C.due(Run.of(), "feed(" + ('p' << 24 | ' ' << 16 | ';' << 8 | ' ') + ", 114, 98, 52, 99)", 8, "fault(0)", 8,
                "feed(0, 0, 0, 0, 49)", 9, "fault(0)", NONE, "text(0)", 1, "reader(0, 0)", 1, "reader(0, 1)", 4);
        C.due(Run.of(), "feed(" + ('p' << 24 | ';' << 16 | 'r' << 8 | 'b') + ", " + ('4' << 24 | 'n' << 16 | '2' << 8 | 'x')
                + ", 0, 0, 0)", 8, "fault(0)", 7);
        C.due("a sign above 127 in the highest place", Run.of("feed(-1, 0, 0, 0, 0)").ask("count(4)"), 4);
        C.due(Run.of(), "feed(1, 256, 65536, 16777216, -2147483648)", 5);

        C.promise(2, "bytes of 0 are left out): how many it has");
        C.due(Run.of(), "feed(0, 0, 0, 0, 0)", 0, "feed(28672, 59, 0, 1912602624, 0)", 3, "fault(0)", NONE,
                "feed(0, 0, 0, 0, 0)", 3, "text(0)", 1);

        C.promise(2, "NONE: more than 240.");
        C.whole(0, "p;r" + " ".repeat(237), "s;r;" + many("pc00", 12) + ";" + many("rc00", 5) + " ".repeat(152));
        C.whole(1, "y:" + "b+".repeat(118) + "10", "y:b=0" + "&b=0".repeat(58) + "?b ", "y:b" + ";y:b".repeat(59) + " ");
        C.due(Run.of("hall pd9;rb1", "law y:" + "b+".repeat(118) + "10"), "melt(0, 0, 0)", 9);
        C.due(Run.of("hall pd9;rb1", "law y:" + "b-".repeat(118) + "b"), "melt(0, 0, 0)", 0);
        Run full = Run.of();
        for (int i = 1; i <= 12; i++) {
            String blanks = String.join(", ", FOUR_BLANKS, FOUR_BLANKS, FOUR_BLANKS, FOUR_BLANKS, FOUR_BLANKS);
            C.due("feed of twenty", full.ask("count(4)"), 20 * (i - 1));
            full.then("feed(" + blanks + ")");
        }
        C.due(full, "count(4)", 240);
        C.still(full, "feed(0, 0, 0, 0, 1)", NONE, "feed(0, 0, 0, 0, 0)", 240, "feed(-1, -1, -1, -1, -1)", NONE);
        full.then("end(239)");
        C.still(full, "feed(257, 0, 0, 0, 0)", NONE, "feed(0, 0, 256, 0, 16777216)", NONE);
        C.due(full.again(), "feed(0, 0, 0, 112, 0)", 240, "fault(0)", 240, "feed(1, 0, 0, 0, 0)", NONE);
        full.then("end(221)");
        C.due(full.again(), "feed(0, -1, -1, -1, -1)", 237);
        C.still(full, "feed(-1, -1, -1, -1, -1)", NONE);
        C.due(full, "end(220)", 1, "feed(-1, -1, -1, -1, -1)", 240);
    }

    private static void end() {
        C.promise(3, "The TAPE has its first n bytes alone.");
        C.due(Run.of("tape p;rx"), "end(3)", 1, "count(4)", 3, "fault(0)", NONE, "feed(0, 0, 0, 0, 98)", 4, "fault(0)", 4,
                "end(3)", 1, "text(0)", 1);
        C.due(Run.of("tape p;r"), "end(1)", 1, "count(4)", 1, "fault(0)", 1);
        C.due("all of it", Run.of("tape p;r").ask("end(3)"), 1);
        C.still(Run.of("tape p;r"), "end(3)", 1);
        C.due(Run.of("tape p;r"), "end(0)", 1, "count(4)", 0, "fault(0)", 0);
        C.due(Run.of(), "end(0)", 1);

        C.promise(3, "False: n.");
        C.still(Run.of("tape p;r"), "end(4)", 0, "end(-1)", 0, "end(240)", 0, "end(-2147483648)", 0, "end(2147483647)", 0);
        C.still(Run.of("tape p;r", "end(1)"), "end(2)", 0);
        C.still(Run.of("hall p;r"), "end(1)", 0);
    }

    private static void faultSorts() {
        C.promise(4, "The FAULT of the TAPE as a HALL (0), a LAW (1), a PLAN (2).");
        C.due(Run.of("tape p;r"), "fault(0)", NONE, "fault(1)", 0, "fault(2)", 0);
        C.due(Run.of("tape y:1"), "fault(0)", 0, "fault(1)", NONE, "fault(2)", 0);
        C.due(Run.of("tape r00"), "fault(0)", 1, "fault(1)", 0, "fault(2)", NONE);
        C.due(Run.of(), "fault(0)", 0, "fault(1)", 0, "fault(2)", 0);

        C.promise(4, "NONE: none.");
        C.still(Run.of("hall p;p;r", "night()", "tape p;r"), "fault(0)", NONE);
        C.still(Run.of("law y:2", "tape y:1"), "fault(1)", NONE);
        C.still(Run.of("plan n", "tape n;n"), "fault(2)", NONE);

        C.promise(4, "-2: no such sort.");
        C.still(Run.of("tape p;r"), "fault(-1)", -2, "fault(3)", -2, "fault(2147483647)", -2, "fault(-2147483648)", -2);
    }

    private static void hallClauses() {
        C.promise(5, "A HALL is a TEXT: CLAUSES with ; between: s (its RULES; one at most)");
        C.whole(0, "p;r", "s;p;r", "sw6;p;r");
        C.fault(0, "s;s;p;r", 2);
        C.fault(0, "p;r s", 4);
        C.fault(0, "p,r", 1);

        C.promise(5, "p (a PAGE; 1 .. 12)");
        C.fault(0, "r", 1);
        C.due(Run.of("tape p;r"), "text(0)", 1, "count(0)", 1);
        C.due(Run.of("tape " + many("p", 12) + ";r"), "text(0)", 12, "count(0)", 12, "page(11, 1)", 5, "page(12, 1)", NONE);
        C.fault(0, many("p", 13) + ";r", 24);

        C.promise(5, "r (a READER; 1 .. 6), in any order");
        C.fault(0, "p", 1);
        C.due(Run.of("hall p;r"), "count(1)", 1);
        C.due(Run.of("hall p;" + many("r", 6)), "count(1)", 6, "reader(5, 1)", 3, "reader(6, 1)", Run.THROWS);
        C.fault(0, "p;" + many("r", 7), 14);
        C.whole(0, "r;p", "r;p;s", "s;r;p", "p;s;r", "r;s;p;r;p");
        C.due(Run.of("hall rb1;pd1;rb2;s;pd2"), "reader(0, 1)", 1, "reader(1, 1)", 2, "page(0, 1)", 1, "page(1, 1)", 2);
    }

    private static void hallItems() {
        C.promise(5, "then ITEMS, none or more: a letter, each once at most in a CLAUSE");
        C.whole(0, "s;p;r", "sw6h5c99f9a99;pc1d2b3t4;rc1b2v3n4", "sa1f0c0h1w1;pt9b4d9c0;rn4v9b9c0");
        C.whole(0, "pc1;pc1;rc1;rc1");
        C.fault(0, "pc1d2c1;r", 5);
        C.fault(0, "p;rb1v1b", 7);
        C.fault(0, "sw2h2w", 5);
        C.fault(0, "pw1;r", 1);
        C.fault(0, "pv1;r", 1);
        C.fault(0, "p;rd1", 3);
        C.fault(0, "p;rt1", 3);
        C.fault(0, "p;r;sb1", 5);
        C.fault(0, "p;r;sd1", 5);
        C.fault(0, "pn1;r", 1);
        C.fault(0, "pC1;r", 1);

        C.promise(5, "and a number (one or two digits)");
        C.due(Run.of("hall pd09c7;rc07b0"), "page(0, 1)", 9, "page(0, 0)", 7, "reader(0, 0)", 7, "reader(0, 1)", 0);
        C.due(Run.of("hall pc19t00;r;sc10"), "page(0, 0)", 19, "page(0, 3)", 0, "hall(2)", 10);
        C.fault(0, "pc;r", 2);
        C.fault(0, "pc:;r", 2);
        C.fault(0, "pc/;r", 2);
        C.fault(0, "pcd1;r", 2);
        C.fault(0, "pc-1;r", 2);
        C.fault(0, "pc005;r", 4);
    }

    private static void lawText() {
        C.promise(5, "LAWS (4 at most) are TEXTS: CLAUSES with ; between, one at least: y, : , perhaps CONDITION ?, then SUM.");
        C.whole(1, "y:1", "y:1;y:2", "y:1=1?2", "y:1;y:1=1?2;y:3");
        C.fault(1, "", 0);
        C.fault(1, "x:1", 0);
        C.fault(1, "y", 1);
        C.fault(1, "y1", 1);
        C.fault(1, "y:", 2);
        C.fault(1, "y:;y:1", 2);
        C.fault(1, "y:1;", 4);
        C.fault(1, "y:1,y:2", 3);
        C.fault(1, "y:1=1?", 6);
        C.fault(1, "y:?1", 2);
        C.fault(1, "y:1?2", 3);
        C.fault(1, "y:1=1?2=2", 7);
        C.fault(1, "y:1=1?(2)", 6);
        C.fault(1, "y:1=1?2?3", 7);
        C.due(Run.of("law y:1", "law y:1", "law y:1", "law y:1", "tape y:1"), "text(1)", NONE, "count(2)", 4);

        C.promise(5, "CONDITION: TRUTHS with | between; TRUTH: UNITS with & between; "
                + "UNIT: ! UNIT, ( CONDITION ), or SUM, one of = < >, SUM.");
        C.whole(1, "y:1=1|1<1|1>1?1", "y:1=1&1<1&1>1?1", "y:1=1&1=1|1=1&1=1?1", "y:!1=1?1", "y:!!1=1?1", "y:!(1=1)?1",
                "y:(1=1)?1", "y:(1=1|1=1)&1=1?1", "y:1=1&(1=1&!1=1)?1", "y:b+1=c*2?1", "y:[b]=[c]?1");
        C.fault(1, "y:1=1|?1", 6);
        C.fault(1, "y:1=1&?1", 6);
        C.fault(1, "y:1=1||1=1?1", 6);
        C.fault(1, "y:1=1&|1=1?1", 6);
        C.fault(1, "y:1&1=1?1", 3);
        C.fault(1, "y:1=1&1?1", 7);
        C.fault(1, "y:1=1=1?1", 5);
        C.fault(1, "y:1==1?1", 4);
        C.fault(1, "y:1=?1", 4);
        C.fault(1, "y:=1?1", 2);
        C.fault(1, "y:(1=1?1", 6);
        C.fault(1, "y:(1=1]?1", 6);
        C.fault(1, "y:()?1", 3);
        C.fault(1, "y:1=(1)?1", 4);
        C.fault(1, "y:1=!1?1", 4);
        C.fault(1, "y:!?1", 3);

        C.promise(5, "SUM: TERMS with + or - between; TERM: ATOMS with * or / between; "
                + "ATOM: a number (1 to 4 digits), a letter (b c d s n t), [ SUM ].");
        C.whole(1, "y:1+2-3", "y:1*2/3", "y:1+2*3-4/5", "y:0", "y:12", "y:123", "y:1234", "y:0000",
                "y:b+c+d+s+n+t", "y:[1]", "y:[[1+2]*3]", "y:[1]*[2]");
        C.fault(1, "y:+1", 2);
        C.fault(1, "y:-1", 2);
        C.fault(1, "y:1+", 4);
        C.fault(1, "y:1+*2", 4);
        C.fault(1, "y:1*", 4);
        C.fault(1, "y:1//2", 4);
        C.fault(1, "y:a", 2);
        C.fault(1, "y:B", 2);
        C.fault(1, "y:bc", 3);
        C.fault(1, "y:1b", 3);
        C.fault(1, "y:b1", 3);
        C.fault(1, "y:[1", 4);
        C.fault(1, "y:[]", 3);
        C.fault(1, "y:[1)", 4);
        C.fault(1, "y:[1=1]", 4);
        C.fault(1, "y:1]", 3);

        C.promise(5, "(A CLAUSE that goes on with ! or ( behind its : has a CONDITION.)");
        C.fault(1, "y:(1)", 4);
        C.fault(1, "y:(1+2)*3", 6);
        C.fault(1, "y:(1=1)", 7);
        C.fault(1, "y:(1=1)=1?1", 7);
        C.fault(1, "y:(1=1)+1", 7);
        C.fault(1, "y:!1", 4);
        C.fault(1, "y:!1+2;y:1", 6);
        C.fault(1, "y:!1=1;y:1", 6);
        C.whole(1, "y:(1=1)?2", "y:!1=1?2");
    }

    private static void lawNested() {
        C.promise(5, "At most six of ( [ ! within one another.");
        C.whole(1, "y:[[[[[[1]]]]]]", "y:((((((1=1))))))?1", "y:!!!!!!1=1?1", "y:!(!(![1]=1))?1", "y:(([[[[1]]]]=1))?1",
                "y:((1=[[[[1]]]]))?1", "y:[[[[[[1]]]]]]=1?1", "y:1=[[[[[[1]]]]]]?1", "y:1=1?[[[[[[1]]]]]]",
                "y:[[[[[[1]]]]]]+[[[[[[1]]]]]]*[[[[[[1]]]]]]", "y:((((((1=1))))))&!!!!!!1=1|[[[[[[1]]]]]]=1?1",
                "y:((((((1=1))))))?[[[[[[1]]]]]];y:((((((1=1))))))?1");
    }

    private static void planText() {
        C.promise(5, "PLANS (4 at most) are TEXTS: STEPS with ; between, 1 to 16");
        C.whole(2, "n", "n;n", many("n", 16));
        C.fault(2, "", 0);
        C.fault(2, "n;", 2);
        C.fault(2, "n,n", 1);
        C.fault(2, "nn", 1);
        C.fault(2, many("n", 17), 31);
        C.due(Run.of("plan " + many("n", 15) + ";g011"), "step(0, 15, 2)", 11, "step(0, 16, 2)", HIDDEN);
        C.due(Run.of("plan n", "plan n", "plan n", "plan n", "tape n"), "text(2)", NONE, "count(3)", 4);

        C.promise(5, "r, a digit (READER), a number (one or two digits: PAGE: it READS it), c likewise (it RECUTS it), "
                + "g, a digit (READER), a number (CELL: it GOES there), n (a NIGHT).");
        C.whole(2, "r00", "r900", "r911", "c00", "c911", "g00", "g929", "r00;c01", "n;r01;n");
        C.fault(2, "x", 0);
        C.fault(2, "t00", 0);
        C.fault(2, "r", 1);
        C.fault(2, "rx", 1);
        C.fault(2, "r:0", 1);
        C.fault(2, "r/0", 1);
        C.fault(2, "r0:", 2);
        C.fault(2, "r0/", 2);
        C.fault(2, "r0", 2);
        C.fault(2, "r0;", 2);
        C.fault(2, "c0", 2);
        C.fault(2, "cn", 1);
        C.fault(2, "g", 1);
        C.fault(2, "g0", 2);
        C.fault(2, "g0n", 2);
        C.fault(2, "n0", 1);
        C.fault(2, "N", 0);
        C.due(Run.of("plan r911;c205;g029;n"), "step(0, 0, 1)", 9, "step(0, 0, 2)", 11, "step(0, 1, 1)", 2,
                "step(0, 1, 2)", 5, "step(0, 2, 1)", 0, "step(0, 2, 2)", 29, "step(0, 3, 0)", 3);
    }

    private static void blanks() {
        C.promise(5, "Blanks (32) may stand between all signs of these, not within numbers.");
        C.whole(0, " p ; r ", "  p  c  19  ;  r  ", " s w 6 h 5 ; p d 9 ; r n 04 ");
        C.due(Run.of("hall  p c 19 t 7 ; r "), "page(0, 0)", 19, "page(0, 3)", 7);
        C.fault(0, "p c 1 9;r", 6);
        C.fault(0, "p;r c 0 5", 8);
        C.fault(0, "p\t;r", 1);
        C.fault(0, "p" + (char) 160 + ";r", 1);
        C.whole(1, " y : 1 ", " y : ! ( b + 12 = [ c ] ) & 1 < 2 | 3 > 4 ? d * 7 / 2 ; y : 0 ");
        C.fault(1, "y:1 2", 4);
        C.fault(1, "y:b=1 2?3", 6);
        C.whole(2, " n ", " r 0 1 ; c 1 11 ; g 2 29 ; n ");
        C.fault(2, "r0 1 1", 5);
        C.fault(2, "g 0 2 9", 6);
        C.due(Run.of("plan r 1 11 ; n"), "step(0, 0, 1)", 1, "step(0, 0, 2)", 11, "step(0, 1, 0)", 3);
    }

    private static void faultAtEnd() {
        C.promise(4, "FAULT: the first byte at which no such TEXT can go on (the length, if it ends too early");
        C.fault(0, "", 0);
        C.fault(0, "   ", 3);
        C.fault(0, "s", 1);
        C.fault(0, "p;", 2);
        C.fault(0, "p;r;", 4);
        C.fault(0, "p;r;  ", 6);
        C.fault(0, "p;rc", 4);
        C.fault(0, "p;rc ", 5);
        C.fault(0, "x", 0);
        C.fault(0, ";p;r", 0);
        C.fault(0, "p;;r", 2);
        C.fault(0, "p;r  x", 5);
        C.fault(0, "pp;r", 1);
        C.fault(0, "1", 0);
        C.fault(0, (char) 240 + "p;r", 0);
        C.fault(0, "p;r" + (char) 255, 3);
        C.fault(1, " ".repeat(240), 240);
        C.fault(1, "y : 1 + ", 8);
        C.fault(2, "n ; ", 4);
        C.fault(2, "r 0 ", 4);

        C.promise(4, "without a PAGE or a READER");
        C.fault(0, "p", 1);
        C.fault(0, "r", 1);
        C.fault(0, "p;s;p ", 6);
        C.fault(0, "s;r;r", 5);

        C.promise(4, "or with a CELL that is not of the HALL)");
        C.fault(0, "pc19;r", NONE);
        C.fault(0, "pc20;r", 6);
        C.fault(0, "p;rc20", 6);
        C.fault(0, "p;rc20;sw6", NONE);
        C.fault(0, "sw6;p;rc23", NONE);
        C.fault(0, "sw6;p;rc24", 10);
        C.fault(0, "pc29;r;sw6h5", NONE);
        C.fault(0, "pc1;r;sw1h1 ", 12);
        C.fault(0, "p;pc2;r;r;sw1h2", 15);
        C.fault(0, "p;p;r;rc2;sw1h2", 15);
        C.fault(0, "pc20;rx", 6);
    }

    private static void faultInside() {
        C.promise(4, "a letter that was there");
        C.fault(0, "sw2w2;p;r", 3);
        C.fault(0, "sh2h2;p;r", 3);
        C.fault(0, "sc2f1c", 5);
        C.fault(0, "sf2f2;p;r", 3);
        C.fault(0, "sa2a2;p;r", 3);
        C.fault(0, "pc1 c2;r", 4);
        C.fault(0, "pd1d", 3);
        C.fault(0, "pb1t1b1;r", 5);
        C.fault(0, "pt1t1;r", 3);
        C.fault(0, "rc1c1;p", 3);
        C.fault(0, "rb1b1;p", 3);
        C.fault(0, "rv1v1;p", 3);
        C.fault(0, "rn1n1;p", 3);
        C.fault(0, "pc99c1;r", 3);

        C.promise(4, "(A READER's digit ends the READER: the number comes behind it, blanks perhaps between. "
                + "A READER, a PAGE that is not there is no FAULT: the STEP can't be.)");
        C.due(Run.of("plan r111"), "step(0, 0, 1)", 1, "step(0, 0, 2)", 11);
        C.due(Run.of("plan r1 11"), "step(0, 0, 1)", 1, "step(0, 0, 2)", 11);
        C.due(Run.of("plan c 1 1"), "step(0, 0, 1)", 1, "step(0, 0, 2)", 1);
        C.due(Run.of("plan g00"), "step(0, 0, 1)", 0, "step(0, 0, 2)", 0);
        C.fault(2, "r11 1", 4);
        C.due(Run.of("hall p;r", "plan n;r10", "plan n;r01", "plan n;c911", "plan n;g029"), "run(0, 0)", 1,
                "run(1, 0)", 1, "run(2, 0)", 1, "run(3, 0)", 1);
    }

    private static void faultNumbers() {
        C.promise(4, "a number out of bounds is wrong at its last digit");
        C.fault(0, "pc30;r", 3);
        C.fault(0, "pc99;r", 3);
        C.fault(0, "pd0;r", 2);
        C.fault(0, "pd00;r", 3);
        C.fault(0, "pd10;r", 3);
        C.fault(0, "pd0", 2);
        C.fault(0, "p d 0 ;r", 4);
        C.fault(0, "p;rb10", 5);
        C.fault(0, "sw7;p;r", 2);

        C.promise(4, "(in a STEP: PAGE 0 .. 11, CELL 0 .. 29)");
        C.whole(2, "r00", "r011", "c00", "c011", "g00", "g029");
        C.fault(2, "r012", 3);
        C.fault(2, "r020", 3);
        C.fault(2, "r099", 3);
        C.fault(2, "c012", 3);
        C.fault(2, "c0 12", 4);
        C.fault(2, "g030", 3);
        C.fault(2, "g099;n", 3);

        C.promise(4, "a third digit (whatever stands ahead of it; a fifth one in a LAW) itself");
        C.fault(0, "pc000;r", 4);
        C.fault(0, "pc100;r", 4);
        C.fault(0, "pc300;r", 4);
        C.fault(0, "pd991", 4);
        C.fault(0, "pd0001;r", 4);
        C.fault(0, "sc100;p;r", 4);
        C.fault(2, "r0011", 4);
        C.fault(2, "r9200", 4);
        C.fault(2, "c0110", 4);
        C.fault(2, "g9990", 4);
        C.fault(1, "y:12345", 6);
        C.fault(1, "y:00000", 6);
        C.fault(1, "y:b=99999?1", 8);
        C.fault(1, "y:1+[123456]", 9);
    }

    private static void faultOnceTooOften() {
        C.promise(4, "a second s");
        C.fault(0, "s;p;r;s", 6);
        C.fault(0, "sw2;p;s", 6);

        C.promise(4, "a 13th p");
        C.fault(0, many("p", 12), 23);
        C.fault(0, many("p", 13), 24);
        C.fault(0, "r;" + many("p", 12) + "; p;r", 27);

        C.promise(4, "a seventh r");
        C.fault(0, many("r", 6), 11);
        C.fault(0, many("r", 7), 12);
        C.fault(0, many("r", 6) + ";p;s;r", 16);

        C.promise(4, "the ; ahead of a 17th STEP");
        C.fault(2, many("n", 16), NONE);
        C.fault(2, many("n", 16) + ";", 31);
        C.fault(2, many("n", 16) + " ; n", 32);
        C.fault(2, many("n", 16) + "x", 31);

        C.promise(4, "a seventh of ( [ ! in a LAW at it.");
        C.fault(1, "y:[[[[[[[1]]]]]]]", 8);
        C.fault(1, "y:(((((((1=1)))))))?1", 8);
        C.fault(1, "y:!!!!!!!1=1?1", 8);
        C.fault(1, "y:!!!!!!(1=1)?1", 8);
        C.fault(1, "y:!!!!!![1]=1?1", 8);
        C.fault(1, "y:((((((!1=1))))))?1", 8);
        C.fault(1, "y:(((((([1]=1))))))?1", 8);
        C.fault(1, "y:((((((1=[1]))))))?1", 10);
        C.fault(1, "y:((!!(1=1&([[1]]=1))))?1", 12);
        C.fault(1, "y:1=1?[[[[[[[", 12);
        C.fault(1, "y:1+[[[[[[1]]]]]]+[[[[[[[", 24);
    }

    private static void hallTaken() {
        C.promise(5, "The TAPE (empty then) is the HALL");
        C.due(Run.of("tape sw2h3;pt7;p;r"), "text(0)", 2, "count(4)", 0, "fault(0)", 0, "hall(0)", 2, "hall(1)", 3,
                "page(0, 3)", 7, "count(0)", 2, "count(1)", 1, "count(7)", 6);
        C.due(Run.of("hall sw2h3;pt7;p;r", "tape p;r;r"), "text(0)", 1, "hall(0)", 5, "hall(1)", 4, "page(0, 3)", 0,
                "page(1, 3)", NONE, "count(1)", 2);

        C.promise(5, "(DAY 0, nobody KNOWS anything");
        C.due(Run.of("hall p;p;r;r"), "count(6)", 0, "known()", 0, "reader(0, 5)", 0, "reader(1, 5)", 0, "memory(0, 0)", NONE);
        Run old = Run.of("hall p;p;r;r", "read(0, 0)", "read(1, 1)", "night()", "tell(0, 1)", "hall p;p;r;r");
        C.due(old.again(), "reader(0, 4)", 0, "reader(1, 4)", 0, "go(0, 1)", 1);
        C.due(old, "count(6)", 0, "known()", 0, "reader(0, 5)", 0, "reader(1, 5)", 0, "memory(0, 0)", NONE,
                "memory(1, 0)", NONE);

        C.promise(5, "how many PAGES");
        C.due(Run.of("tape p;r"), "text(0)", 1);
        C.due(Run.of("tape p;p;r"), "text(0)", 2);
        C.due(Run.of("tape r;" + many("p", 12)), "text(0)", 12);
    }

    private static void whatOutlives() {
        C.promise(5, "all that was of another one is gone but LAWS, which holds, PLANS, SLIPS)");
        Run x = Run.of("hall sw3h1c20;pd3;pd1;r;r", "law y:1", "law y:d+4", "law(0)", "plan n;g01", "slips(7)",
                "read(0, 0)", "night()", "go(1, 2)", "image()", "hare(0)", "tape pd2;r");
        C.due(x, "text(0)", 1);
        int[] counts = {1, 1, 2, 1, 0, 0, 0, 20, 7, 0, 2, 0, 0};
        for (int i = 0; i < counts.length; i++) {
            C.due(x, "count(" + i + ")", counts[i]);
        }
        C.due(x, "hall(2)", 40, "hall(3)", 1, "hall(4)", 60, "page(0, 1)", 2, "reader(0, 0)", 0, "reader(0, 4)", 0,
                "undo()", NONE, "back()", NONE, "log(0, 0)", HIDDEN, "melt(0, 0, 0)", 1, "law(1)", 1, "melt(0, 0, 0)", 6,
                "step(0, 1, 2)", 1, "run(0, 0)", NONE, "reader(1, 0)", Run.THROWS);
        C.due(Run.of("hall sw3h1;p;r", "law y:7", "hall p;r"), "count(5)", 0, "melt(0, 0, 0)", 7);
    }

    private static void lawsAndPlansTaken() {
        C.promise(5, "a LAW, a PLAN: its number");
        Run x = Run.of("hall pd7;r", "tape y:1");
        C.due(x, "text(1)", 0, "count(4)", 0, "count(2)", 1, "count(5)", NONE);
        x.then("tape y:2");
        C.due(x, "text(1)", 1);
        x.then("tape y:3");
        C.due(x, "text(1)", 2);
        x.then("tape y:4");
        C.due(x, "text(1)", 3, "count(2)", 4, "count(4)", 0);
        for (int law = 0; law < 4; law++) {
            C.due(x, "law(" + law + ")", 1, "melt(0, 0, 0)", law + 1);
        }
        for (int plan = 0; plan < 4; plan++) {
            x.then("tape g0" + plan);
            C.due(x, "text(2)", plan, "count(3)", plan + 1, "count(4)", 0);
        }
        for (int plan = 0; plan < 4; plan++) {
            C.due(x, "step(" + plan + ", 0, 2)", plan);
        }
    }

    private static void textRefused() {
        C.promise(5, "NONE: a FAULT");
        C.still(Run.of("hall sw2h1;pt3;r", "read(0, 0)", "image()", "tape pc20;r"), "text(0)", NONE);
        C.still(Run.of("hall sw2h1;pt3;r", "night()", "tape s;p"), "text(0)", NONE);
        C.still(Run.of("hall p;r", "law y:5", "tape y:1+"), "text(1)", NONE, "text(0)", NONE, "text(2)", NONE);
        C.still(Run.of("hall p;r", "plan n;r00", "tape n;r0"), "text(2)", NONE, "text(0)", NONE, "text(1)", NONE);
        C.still(Run.of(), "text(0)", NONE, "text(1)", NONE, "text(2)", NONE);

        C.promise(5, "no such sort");
        C.still(Run.of("tape p;r"), "text(-1)", NONE, "text(3)", NONE, "text(-2147483648)", NONE);

        C.promise(5, "there are four.");
        Run laws = Run.of("hall p;r", "law y:1", "law y:2", "law y:3", "law y:4", "tape y:5");
        C.still(laws, "text(1)", NONE, "fault(1)", NONE);
        C.due(laws, "text(1)", NONE, "count(4)", 3, "melt(0, 0, 0)", 4, "law(4)", 0, "end(0)", 1);
        C.due(laws.then("tape y"), "text(1)", NONE, "fault(1)", 1, "melt(0, 0, 0)", 4);
        Run plans = Run.of("hall p;r", "plan n", "plan r00", "plan n", "plan g01", "tape n;n");
        C.still(plans, "text(2)", NONE, "fault(2)", NONE);
        C.due(plans, "text(2)", NONE, "count(4)", 3, "step(3, 0, 0)", 2, "step(3, 1, 0)", HIDDEN, "step(4, 0, 0)", HIDDEN);
        C.due(plans.then("tape n;"), "text(2)", NONE, "fault(2)", 2);
        C.due(plans.then("tape y:1"), "text(1)", 0);

        // What was on the TAPE when it was refused leaves nothing behind in the TEXT that is taken then.
        C.promise(5, "NONE: a FAULT, no such sort, there are four.");
        C.due(Run.of("hall pd9;r", "tape y:9;y", "fault(1)", "text(1)", "law y:2"), "melt(0, 0, 0)", 2);
        C.due(Run.of("hall pd9;r", "tape y:1=2?3;y:5;y", "text(1)", "law y:1=2?3"), "melt(0, 0, 0)", 0);
        C.due(Run.of("hall pd9;r", "tape n;n;g011;", "text(2)", "plan r00"), "step(0, 0, 0)", 0, "step(0, 1, 0)", HIDDEN);
        C.due(Run.of("tape sw2;p;pd9t7;rb9;r;", "text(0)", "fault(0)", "hall p;r"), "count(0)", 1, "count(1)", 1, "hall(0)", 5,
                "page(0, 1)", 5, "reader(0, 1)", 3);
    }
}
