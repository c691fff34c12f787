/** Promises 30, 31, 33 to 37 and 40: WHO, FIRST, NEEDY, KNOWN, SURE, SPLIT, LIKELY, LEARNT. */
final class MemoryTest {
    private static final Check C = new Check("MemoryTest");
    private static final int NONE = SnowBooks.NONE;

    public static void main(String[] args) {
        who();
        whoRefused();
        first();
        needy();
        known();
        sure();
        split();
        likely();
        likelyRefused();
        learnt();
        C.end();
    }

    /**
     * PAGE 0 says so; READERS 0 to 2 know it; then, LOST, it is recut so many times with a slip by READER 0, who alone
     * has not done a deed. Nothing melts by itself; HARES make it LOST each time.
     */
    private static Run slipped(int says, int slips) {
        Run x = Run.of("hall sf0a99;pt" + says + "d9;rb0v0;rb0v0;rb0v0", "read(0, 0)", "read(1, 0)", "read(2, 0)", "night()",
                "slips(99)");
        for (int i = 0; i < slips; i++) {
            x.then("hare(0)").then("hare(0)").then("hare(0)").then("tell(1, 0)").then("tell(2, 0)").then("centuries(1, 2)");
        }
        int told = (says + slips) % 10;
        C.due(x, "memory(0, 0)", told, "memory(1, 0)", says, "memory(2, 0)", says, "page(0, 3)", told, "page(0, 1)", 9);
        return x;
    }

    private static Run lost(Run x) {
        return x.then("hare(0)").then("hare(0)").then("hare(0)");
    }

    private static void who() {
        C.promise(30, "WHO: sets of READERS (bits) who together KNOW all PAGES of a BOOK (LOST ones, too): the fewest "
                + "(of several the least as bits).");
        Run x = Run.of("hall sf0a99;pd9;pd9;pd9;pd9b1;rb0;rb0;rb0;rb0", "read(0, 0)", "read(1, 1)", "read(2, 2)", "read(3, 3)");
        C.still(x, "who(0)", 7, "who(1)", 8);
        x.then("night()").then("read(3, 0)").then("tell(2, 1)");
        // READER 1 knows PAGES 1 and 2; READERS 0 and 3 know PAGE 0.
        C.still(x, "who(0)", 3);
        x.then("night()").then("tell(1, 3)");
        C.still(x, "who(0)", 8);
        x.then("night()").then("tell(3, 2)");
        C.still(x, "who(0)", 4, "who(1)", 4);
        C.due(lost(x), "count(9)", 4, "who(0)", 4, "who(1)", 4);
        C.due(Run.of("hall sf0a99;pd1;pc1d9;rb0", "read(0, 1)", "hare(0)"), "who(0)", NONE);
        C.due(Run.of("hall p;rb0;rb0;rb0;rb0;rb0;rb0", "read(5, 0)"), "who(0)", 32);
        // READERS 0, 1 and 2 together are the first who know all, READERS 1 and 3 are fewer.
        x = Run.of("hall sf0a99;pd9;pd9;pd9;rb0;rb0;rb0;rb0", "read(0, 0)", "read(1, 1)", "read(2, 2)", "read(3, 0)", "night()",
                "read(3, 2)");
        C.still(x, "who(0)", 10);
    }

    private static void whoRefused() {
        C.promise(30, "WHO, as bits. NONE: not all together, no such BOOK (0 .. 4), no HALL.");
        Run x = Run.of("hall pd9;pd9;pb4d9;rb0;rb0", "read(0, 0)", "read(1, 2)");
        C.still(x, "who(0)", NONE, "who(4)", 2);
        C.still(x, "who(5)", NONE, "who(-1)", NONE, "who(2147483647)", NONE, "who(-2147483648)", NONE);
        C.still(Run.of(), "who(0)", NONE, "who(4)", NONE);

        C.promise(30, "(A BOOK without PAGES: 0.)");
        C.still(x, "who(1)", 0, "who(2)", 0, "who(3)", 0);
    }

    private static void first() {
        C.promise(31, "FIRST to be RECUT: the PAGE that is there with the least DEPTH that somebody KNOWS (of several the lowest).");
        C.still(Run.of("hall pd3;pd9;rb0", "read(0, 0)"), "first()", 0);
        C.still(Run.of("hall pd1;pd1;rb0;rb0", "read(0, 1)", "read(1, 0)"), "first()", 0);
        Run x = Run.of("hall pd9;pd4;pd4;pd1;pd2;rb0;rb0;rb0", "read(0, 2)");
        C.still(x, "first()", 2);
        C.due(x, "read(1, 1)", 0, "first()", 1, "read(2, 3)", 0, "first()", 3, "night()", 1, "recut(2, 3)", 0, "first()", 1,
                "hare(0)", 14, "first()", 1, "hare(0)", 8, "count(9)", 3, "first()", 3);

        C.promise(31, "FIRST. NONE: none, no HALL.");
        C.still(Run.of("hall p;r"), "first()", NONE);
        C.still(Run.of("hall pd1;pc19;rb9", "read(0, 0)"), "first()", NONE);
        C.still(Run.of(), "first()", NONE);
        C.due(Run.of("hall p;p;rb0", "read(0, 1)"), "first()", 1);
    }

    private static void needy() {
        C.promise(33, "NEEDY: READERS (bits) who do not KNOW all PAGES of the BOOK that they NEED.");
        Run x = Run.of("hall sf0a99;pd9b1;pd9b1;pd9b2;rb0n1;rb0n1;rb0n2;rb0n3");
        C.still(x, "needy()", 7);
        C.due(x, "read(0, 0)", 0, "read(1, 2)", 0, "read(2, 2)", 0, "needy()", 3, "night()", 1, "read(0, 1)", 0, "needy()", 2);
        lost(x);
        C.due(x, "count(9)", 3, "needy()", 2, "night()", 2, "tell(0, 1)", 2, "needy()", 0);
        C.due(Run.of("hall p;r;r;r;r;r;r"), "needy()", 63);

        C.promise(33, "NEEDY, as bits. NONE: no HALL.");
        C.still(Run.of(), "needy()", NONE);
        C.still(Run.of("hall pb1;r"), "needy()", 0);
    }

    private static void known() {
        C.promise(34, "KNOWN: PAGES (bits) that somebody KNOWS.");
        Run x = Run.of("hall sf0a99;pd9;pd9;pd9;rb0;rb0");
        C.still(x, "known()", 0);
        C.due(x, "read(0, 0)", 0, "known()", 1, "read(1, 2)", 0, "known()", 5, "night()", 1, "read(0, 2)", 0, "known()", 5);
        C.due(lost(x), "count(9)", 3, "known()", 5);
        Run twelve = Run.of("hall p;p;p;p;p;p;p;p;p;p;p;p;rb0;rb0;rb0;rb0;rb0;rb0");
        for (int p = 0; p < 12; p++) {
            C.due(twelve, "read(" + p % 6 + ", " + p + ")", 0, "known()", (2 << p) - 1);
            twelve.then(p == 5 ? "night()" : "known()");
        }

        C.promise(34, "KNOWN, as bits. NONE: no HALL.");
        C.still(Run.of(), "known()", NONE);
    }

    private static void sure() {
        C.promise(35, "SURE: PAGES (bits) that two READERS or more KNOW, all who do alike.");
        Run x = Run.of("hall sf0a99;pd9;pd9t4;pd9t4;rb0;rb0;rb0", "read(0, 1)");
        C.still(x, "sure()", 0);
        C.due(x, "read(1, 1)", 4, "sure()", 2, "read(2, 2)", 4, "sure()", 2, "night()", 1, "read(2, 1)", 4, "sure()", 2,
                "tell(2, 0)", NONE, "night()", 2, "tell(2, 0)", 1, "sure()", 6);
        C.due(lost(x), "sure()", 6);
        C.due(slipped(5, 0), "sure()", 1);
        C.due(slipped(5, 1), "sure()", 0);
        C.due(slipped(5, 1), "recut(1, 0)", 5, "read(0, 0)", 5, "sure()", 1);

        C.promise(35, "SURE, as bits. NONE: no HALL.");
        C.still(Run.of(), "sure()", NONE);
        C.still(Run.of("hall p;r", "read(0, 0)"), "sure()", 0);
    }

    private static void split() {
        C.promise(36, "SPLIT: PAGES (bits) of which two READERS KNOW other things.");
        Run x = Run.of("hall sf0a99;pd9;pd9t4;rb0;rb0", "read(0, 0)", "read(1, 1)");
        C.still(x, "split()", 0);
        C.due(slipped(5, 0), "split()", 0);
        C.due(slipped(5, 1), "split()", 1);
        C.due(lost(slipped(9, 1)), "split()", 1);
        C.due(slipped(5, 1), "read(1, 0)", 6, "split()", 1, "read(2, 0)", 6, "split()", 0);
        // READERS 0 and 2 know other things, READER 1 nothing.
        C.due(Run.of("hall sf0a99;pt5d9;rb0v0;rb0v1;rb0v0", "read(0, 0)", "read(2, 0)", "night()", "hare(0)", "hare(0)", "hare(0)",
                "go(1, 1)", "tell(2, 0)", "slips(99)", "centuries(1, 2)"), "memory(0, 0)", 6, "memory(1, 0)", NONE, "memory(2, 0)", 5,
                "split()", 1, "sure()", 0);
        // The last READER alone knows other things.
        C.due(Run.of("hall sf0a99;pt5d9;rb0v0;rb0v0;rb0v0", "read(0, 0)", "tell(0, 1)", "night()", "tell(0, 1)", "tell(1, 2)",
                "hare(0)", "hare(0)", "hare(0)", "slips(99)", "centuries(1, 2)"), "memory(2, 0)", 6, "split()", 1);

        C.promise(36, "SPLIT, as bits. NONE: no HALL.");
        C.still(Run.of(), "split()", NONE);
    }

    private static void likely() {
        C.promise(37, "LIKELY of a PAGE: what (0 .. 9) is the least apart from all that is KNOWN of it, and from what it SAYS, "
                + "if it is there, together");
        C.still(Run.of("hall pt9d3;r"), "likely(0, 0)", 9, "likely(0, 1)", 0);
        C.still(Run.of("hall pt0d3;r"), "likely(0, 0)", 0, "likely(0, 1)", 0);
        C.still(Run.of("hall pt7d1;r"), "likely(0, 0)", 7, "likely(0, 1)", 0);
        C.due(Run.of("hall pt7d9;rb0;rb0", "read(0, 0)", "read(1, 0)"), "likely(0, 0)", 7, "likely(0, 1)", 0);
        // KNOWN as 7, 5 and 5; it SAYS 7: 5 to 7 are 4 apart together. LOST: 5 is 2 apart.
        C.due(slipped(5, 2), "likely(0, 0)", 5, "likely(0, 1)", 4);
        C.due(lost(slipped(5, 2)), "likely(0, 0)", 5, "likely(0, 1)", 2);
        C.due(slipped(5, 2), "read(2, 0)", 7, "likely(0, 0)", 7, "likely(0, 1)", 2);
        C.due(lost(slipped(5, 2).then("read(2, 0)")), "likely(0, 0)", 7, "likely(0, 1)", 2);

        C.promise(37, "(apart of two: by turns of ten, the shorter way; of several the least); how much.");
        // 9, 9 and 0: 1 apart; from 1, 9 is 2 apart; 4 and 9 are 5 apart by both ways.
        C.due(lost(slipped(9, 1)), "likely(0, 0)", 9, "likely(0, 1)", 1);
        C.due(slipped(9, 1), "likely(0, 0)", 0, "likely(0, 1)", 2);
        C.due(slipped(9, 1), "read(2, 0)", 0, "likely(0, 0)", 0, "likely(0, 1)", 1);
        C.due(lost(slipped(9, 2)), "likely(0, 0)", 9, "likely(0, 1)", 2);
        C.due(slipped(9, 2), "likely(0, 0)", 0, "likely(0, 1)", 4);
        C.due(slipped(9, 3), "likely(0, 0)", 0, "likely(0, 1)", 6);
        C.due(slipped(8, 4), "likely(0, 0)", 0, "likely(0, 1)", 8);
        C.due(slipped(4, 5), "likely(0, 0)", 0, "likely(0, 1)", 10);
        C.due(slipped(4, 6), "likely(0, 0)", 0, "likely(0, 1)", 8);
        C.due(slipped(8, 3), "likely(0, 0)", 0, "likely(0, 1)", 6);
    }

    private static void likelyRefused() {
        C.promise(37, "LIKELY: what (0), how much apart (1). NONE: nothing is KNOWN and it is LOST, no such ones.");
        Run x = Run.of("hall pd3t4;pc1t5;r;rb0c1", "hare(0)");
        C.still(x, "likely(0, 0)", NONE, "likely(0, 1)", NONE, "likely(1, 0)", 5, "likely(1, 1)", 0);
        C.still(x, "likely(2, 0)", NONE, "likely(-1, 0)", NONE, "likely(12, 1)", NONE, "likely(2147483647, 0)", NONE,
                "likely(-2147483648, 0)", NONE);
        C.still(x, "likely(1, 2)", NONE, "likely(1, -1)", NONE, "likely(1, 2147483647)", NONE);
        C.still(Run.of(), "likely(0, 0)", NONE, "likely(0, 1)", NONE);
        C.due(Run.of("hall pd1t4;rb9", "read(0, 0)"), "page(0, 1)", 0, "likely(0, 0)", 4, "likely(0, 1)", 0);
    }

    private static void learnt() {
        C.promise(40, "LEARNT: of PAGES of the BOOK that it NEEDS how many a READER KNOWS as they were told at first.");
        Run x = Run.of("hall sf0a99;pt5d9b1;pt0d9b1;pt7d9b2;rb0n1;rb0n2;rb0n3");
        C.still(x, "learnt(0)", 0, "learnt(1)", 0, "learnt(2)", 0);
        C.due(x, "read(0, 0)", 5, "read(1, 0)", 5, "learnt(0)", 1, "learnt(1)", 0, "night()", 1, "read(0, 1)", 0, "learnt(0)", 2,
                "night()", 2, "read(0, 2)", 7, "learnt(0)", 2, "tell(1, 2)", 1, "learnt(2)", 0, "night()", 3, "tell(0, 1)", 2,
                "learnt(1)", 1);
        C.due(lost(x), "learnt(0)", 2);
        C.due(slipped(5, 1), "learnt(0)", 0, "learnt(1)", 1, "read(1, 0)", 6, "learnt(1)", 0, "learnt(2)", 1);
        C.due(slipped(5, 1), "recut(2, 0)", 5, "read(0, 0)", 5, "learnt(0)", 1);

        C.promise(40, "LEARNT. NONE: no such READER.");
        C.still(x, "learnt(3)", NONE, "learnt(-1)", NONE, "learnt(6)", NONE, "learnt(2147483647)", NONE,
                "learnt(-2147483648)", NONE);
        C.still(Run.of(), "learnt(0)", NONE);
    }
}
