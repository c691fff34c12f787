/** Promises 25 to 42: what will be lost, what is known, who breathed, what was learnt. */
final class QuestionsTest {
    private static final Check C = new Check("QuestionsTest");
    private static final int NONE = SnowBooks.NONE;
    private static final int HIDDEN = SnowBooks.HIDDEN;

    public static void main(String[] args) {
        loss();
        leftAndLast();
        order();
        orderBounds();
        share();
        who();
        first();
        placeFor();
        memories();
        likely();
        breathed();
        exam();
        learnt();
        quiet();
        far();
        fullHall();
        fullHallAsked();
        C.end();
    }

    private static void loss() {
        SnowBooks x = Check.hall("sw6h5;pc29d3;pc28d1;pc27;rb9v0;rb9");
        C.due("however far: 8 of 3, 7 of 1", x.loss(0, 0), 4);
        C.due("8 of 1, 7 of 3, 7 of 5", x.loss(0, 1), 9);
        x.hare(28);
        C.due("a lost one", x.loss(0, 1), NONE);
        C.due("no such page", x.loss(0, 3), NONE);
        C.due("no such page below", x.loss(0, -1), NONE);
        C.due("no such reader", x.loss(2, 0), NONE);
        C.due("no such reader below", x.loss(-1, 0), NONE);
        SnowBooks done = Check.hall("pd9;r;r");
        Check.law(done, "y:1+n");
        done.read(0, 0);
        C.due("whether it has done a deed or not", done.loss(0, 0), 2);
    }

    private static void leftAndLast() {
        SnowBooks x = Check.hall("sc2f1a9;pd1;pd3;pd9;r");
        int[] left = {7, 7, 6, 6, 4};
        for (int n = 0; n < left.length; n++) {
            C.due("left(" + n + ")", x.left(n), left[n]);
        }
        C.due("left(9)", x.left(9), 4);
        C.due("left(10)", x.left(10), 0);
        C.due("left(99)", x.left(99), 0);
        C.due("left(100)", x.left(100), NONE);
        C.due("left(-1)", x.left(-1), NONE);
        C.due("last(0)", x.last(0), 2);
        C.due("last(1)", x.last(1), 4);
        C.due("last(2)", x.last(2), 10);
        C.due("last(3)", x.last(3), NONE);
        C.due("last(-1)", x.last(-1), NONE);
        C.due("no night fell", x.count(6), 0);
        x.hare(0);
        C.due("last of a lost one", x.last(0), 0);
        SnowBooks long1 = Check.hall("sf0a99;pd1;pd2;r");
        C.due("just within 99", long1.last(0), 99);
        C.due("not within 99", long1.last(1), NONE);
        C.due("left(98)", long1.left(98), 3);
        C.due("left(99) of it", long1.left(99), 2);
    }

    private static void order() {
        // Read at the end of the row first, page 2 (alone there) loses 2; from the middle all lose.
        SnowBooks x = Check.hall("sw5h1f0;pd9b1;pc2d9b1;pc4d9b1;rv9");
        C.due("all rows alike: the least", x.order(0, 1, 0), 14);
        C.due("2 each", x.order(0, 1, 1), 6);
        C.due("page 2 is too far at first", Check.hall("sw5h1f0;pc4d9;pc2d9;pd9;rv2").order(0, 0, 0), 2 * 144 + 12);
        C.due("speed too small", Check.hall("sw5h1f0;pc4d9;pd9;rv2").order(0, 0, 0), HIDDEN);
        C.due("speed too small, lost", Check.hall("sw5h1f0;pc4d9;pd9;rv2").order(0, 0, 1), HIDDEN);
        // The other book's page in its cell melts too; page 1 first melts it away for less.
        SnowBooks y = Check.hall("sw3h1f0;pd9;pc1d1b1;pc2d9;rc1v1");
        C.due("from both sides", y.order(0, 0, 0), HIDDEN);
        SnowBooks z = Check.hall("sw3h1f0;pd9;pc1d1b1;pc2d9;rc1v2");
        C.due("other books melt too", z.order(0, 0, 1), 5);
        C.due("its row", z.order(0, 0, 0), 2);
        // Today melts 1 by 2 - 40/20 + 1, tomorrow at cold 0 by 3, but a night takes 1.
        SnowBooks w = Check.hall("sf9c18a99;pd9;rb0");
        C.due("cold today", w.order(0, 0, 1), 1);
        // Read once (1), it is read again tomorrow: cold 9.
        w.read(0, 0);
        C.due("tomorrow", w.order(0, 0, 1), 1);
        C.due("apart", w.count(6), 0);
        SnowBooks gone = Check.hall("sc1a1;pd1;rb0");
        C.due("read today", gone.order(0, 0, 0), 0);
        gone.go(0, 1);
        C.due("lost by tomorrow", gone.order(0, 0, 0), HIDDEN);
    }

    private static void orderBounds() {
        SnowBooks x = Check.hall("p;p;p;p;p;p;pb1;pb2;pb2;pb2;pb2;pb2;rb0");
        C.due("six pages", x.order(0, 0, 0), HIDDEN);
        C.due("one page", x.order(0, 1, 0), 6);
        C.due("five pages", x.order(0, 2, 0), (((7 * 12 + 8) * 12 + 9) * 12 + 10) * 12 + 11);
        C.due("lost by them", x.order(0, 2, 1), 0);
        C.due("no page", x.order(0, 3, 0), HIDDEN);
        C.due("no such book", x.order(0, 5, 0), HIDDEN);
        C.due("no such book below", x.order(0, -1, 0), HIDDEN);
        C.due("no such reader", x.order(1, 1, 0), HIDDEN);
        C.due("no such reader below", x.order(-1, 1, 0), HIDDEN);
        C.due("no such what", x.order(0, 1, 2), HIDDEN);
        C.due("no such what below", x.order(0, 1, -1), HIDDEN);
        SnowBooks y = Check.hall("pd1;pc1;pc1;pc1;pc1;pc1;r");
        C.due("six of them", y.order(0, 0, 0), HIDDEN);
        y.hare(0);
        C.due("five that are there", y.order(0, 0, 0) != HIDDEN, false);
        SnowBooks z = Check.hall("pd1;pc1;pc1;pc1;pc1;pc1;rb0");
        z.hare(0);
        C.due("five that are there and last", z.order(0, 0, 0), (((1 * 12 + 2) * 12 + 3) * 12 + 4) * 12 + 5);
    }

    private static void share() {
        // Reader 0 loses 2 by either page; reader 1 loses 9 by page 0 and reaches it alone.
        SnowBooks x = Check.hall("sw5h1f0;pd9;pc4d9;pc2d9b1;rv4;rb9v0");
        C.due("share(0, 0)", x.share(0, 0), 2);
        C.due("share(0, 1)", x.share(0, 1), 10);
        C.due("share(1, 0)", x.share(1, 0), 1);
        C.due("share(1, 1)", x.share(1, 1), 2);
        C.due("share(2, 0)", x.share(2, 0), 0);
        C.due("share(2, 1)", x.share(2, 1), 0);
        C.due("share(5, 0)", x.share(5, 0), NONE);
        C.due("share(-1, 0)", x.share(-1, 0), NONE);
        C.due("share(0, 2)", x.share(0, 2), NONE);
        C.due("share(0, -1)", x.share(0, -1), NONE);
        C.due("no hall", new SnowBooks().share(0, 0), NONE);
        x.read(0, 2);
        C.due("whatever was done", x.share(0, 0), 2);
        x.hare(4);
        x.hare(4);
        x.hare(4);
        C.due("lost ones are not shared", x.share(0, 0), 1);
        C.due("the cheaper reader", x.share(0, 1), 2);
        SnowBooks y = Check.hall("pd1;pd2;pd3;rb9;rb1");
        C.due("more pages than readers", y.share(0, 0), 2);
        C.due("each loss as if alone: 6 and 0", y.share(0, 1), 6);
    }

    private static void who() {
        SnowBooks x = Check.hall("pd9;pd9;pd9;pd9b1;rb0;rb0;rb0;rb0");
        C.due("a book without pages", x.who(4), 0);
        C.due("nobody", x.who(0), NONE);
        x.read(0, 0);
        x.read(1, 1);
        x.read(2, 2);
        C.due("three together", x.who(0), 7);
        x.read(3, 3);
        C.due("another book", x.who(1), 8);
        x.night();
        x.read(3, 0);
        x.tell(2, 1);
        C.due("1 knows two, 0 or 3 the third", x.who(0), 3);
        x.night();
        x.tell(1, 3);
        C.due("one knows all", x.who(0), 8);
        x.hare(0);
        x.hare(0);
        x.hare(0);
        C.due("lost ones too", x.who(0), 8);
        C.due("who(5)", x.who(5), NONE);
        C.due("who(-1)", x.who(-1), NONE);
        C.due("no hall", new SnowBooks().who(0), NONE);
    }

    private static void first() {
        SnowBooks x = Check.hall("pd9;pd4;pd4;pd1;rb0;rb0;rb0");
        C.due("nobody knows", x.first(), NONE);
        x.read(0, 2);
        C.due("the one that is known", x.first(), 2);
        x.read(1, 1);
        C.due("the lowest of several", x.first(), 1);
        x.read(2, 3);
        C.due("the least depth", x.first(), 3);
        x.hare(0);
        C.due("of those that are there", x.first(), 1);
        C.due("no hall", new SnowBooks().first(), NONE);
    }

    private static void placeFor() {
        SnowBooks x = Check.hall("sw5h1;pc2d9;pd3;r");
        C.due("away from page 1", x.placeFor(0, 0), 4);
        C.due("steps", x.placeFor(0, 1), 4);
        C.due("the lowest of two ends", x.placeFor(1, 0), 0);
        C.due("steps to the middle", x.placeFor(1, 1), 2);
        x.hare(0);
        C.due("none there: cell 0", x.placeFor(0, 0), 0);
        C.due("none there: no steps", x.placeFor(0, 1), NONE);
        C.due("a place for a lost one", x.placeFor(1, 1), 2);
        C.due("placeFor(2, 0)", x.placeFor(2, 0), NONE);
        C.due("placeFor(-1, 0)", x.placeFor(-1, 0), NONE);
        C.due("placeFor(0, 2)", x.placeFor(0, 2), NONE);
        C.due("placeFor(0, -1)", x.placeFor(0, -1), NONE);
        SnowBooks y = Check.hall("sw5h1;pc0;pc4;p;r");
        C.due("the nearest counts", y.placeFor(2, 0), 2);
    }

    private static void memories() {
        SnowBooks x = Check.hall("pt5d9b1;pt6d9b1;pt7d9b2;rb0n1;rb0n1;rb0n2;rb0n3");
        C.due("needy", x.needy(), 7);
        x.read(0, 0);
        x.read(1, 0);
        x.read(2, 2);
        C.due("needy then", x.needy(), 3);
        C.due("known", x.known(), 5);
        C.due("sure", x.sure(), 1);
        C.due("split", x.split(), 0);
        x.night();
        x.read(0, 1);
        C.due("needy at last", x.needy(), 2);
        SnowBooks none = new SnowBooks();
        C.due("needy without a hall", none.needy(), NONE);
        C.due("known without a hall", none.known(), NONE);
        C.due("sure without a hall", none.sure(), NONE);
        C.due("split without a hall", none.split(), NONE);
        splitOne();
    }

    private static void splitOne() {
        SnowBooks x = Check.hall("pt5d9;rb0v0;rb0v0");
        x.read(0, 0);
        x.read(1, 0);
        C.due("sure", x.sure(), 1);
        x.night();
        x.hare(0);
        x.hare(0);
        x.hare(0);
        // Reader 1 is busy: reader 0 alone recuts, and slips.
        x.tell(1, 0);
        x.slips(99);
        x.centuries(1, 3);
        C.due("a slip", x.memory(0, 0), 6);
        C.due("the other one", x.memory(1, 0), 5);
        C.due("split", x.split(), 1);
        C.due("not sure", x.sure(), 0);
        C.due("known", x.known(), 1);
        C.due("says 6, known as 6 and 5", x.likely(0, 0), 6);
        C.due("apart by 1", x.likely(0, 1), 1);
        x.hare(0);
        x.hare(0);
        x.hare(0);
        C.due("lost: 5 or 6, the lowest", x.likely(0, 0), 5);
        C.due("lost: apart by 1", x.likely(0, 1), 1);
        C.due("learnt with a slip", x.learnt(0), 0);
        C.due("learnt as it was", x.learnt(1), 1);
    }

    private static void likely() {
        SnowBooks x = Check.hall("pt9d3;pt0d3;r");
        C.due("what it says alone", x.likely(0, 0), 9);
        C.due("apart by nothing", x.likely(0, 1), 0);
        C.due("likely(2, 0)", x.likely(2, 0), NONE);
        C.due("likely(-1, 0)", x.likely(-1, 0), NONE);
        C.due("likely(0, 2)", x.likely(0, 2), NONE);
        C.due("likely(0, -1)", x.likely(0, -1), NONE);
        x.hare(0);
        C.due("lost and not known", x.likely(0, 0), NONE);
        C.due("lost and not known, apart", x.likely(0, 1), NONE);
        // 9 and, by a slip, 0: by turns of ten they are 1 apart.
        SnowBooks y = Check.hall("pt9d9;rb0;rb0");
        y.read(0, 0);
        y.read(1, 0);
        y.night();
        y.hare(0);
        y.hare(0);
        y.hare(0);
        y.tell(1, 0);
        y.slips(99);
        y.centuries(1, 3);
        C.due("0, 0 and 9", y.likely(0, 0), 0);
        C.due("by turns of ten", y.likely(0, 1), 1);
    }

    private static void breathed() {
        // At cold 40: 1, 1 and 2 a step away; 2, 2 and 3 in the cell.
        SnowBooks x = Check.hall("sw3h1;pd1;rc2;r;rb4");
        C.due("k 2 beside it", x.breathed(0, 1, 2, NONE), 2);
        C.due("the first", x.breathed(0, 1, 2, 0), 3);
        C.due("the second", x.breathed(0, 1, 2, 1), 4);
        C.due("the third", x.breathed(0, 1, 2, 2), NONE);
        C.due("all of them in it, whatever the depth", x.breathed(0, 0, 7, 0), 7);
        C.due("too far: all sets", x.breathed(0, 2, 0, NONE), 8);
        C.due("too far: the last", x.breathed(0, 2, 0, 7), 7);
        C.due("nobody", x.breathed(0, 0, 0, 0), 0);
        C.due("none for k", x.breathed(0, 0, 99, NONE), 0);
        C.due("k 100", x.breathed(0, 0, 100, NONE), NONE);
        C.due("k -1", x.breathed(0, 0, -1, NONE), NONE);
        C.due("i -2", x.breathed(0, 0, 0, -2), NONE);
        C.due("no such page", x.breathed(1, 0, 0, NONE), NONE);
        C.due("no such page below", x.breathed(-1, 0, 0, NONE), NONE);
        C.due("no such cell", x.breathed(0, 3, 0, NONE), NONE);
        C.due("no such cell below", x.breathed(0, -1, 0, NONE), NONE);
        Check.law(x, "y:n");
        C.due("n: others of the set", x.breathed(0, 0, 2, NONE), 3);
        C.due("n: all", x.breathed(0, 0, 6, 0), 7);
        x.hare(0);
        C.due("lost", x.breathed(0, 0, 0, NONE), NONE);
    }

    private static void exam() {
        SnowBooks x = new SnowBooks();
        C.due("exam(3, 2, 50)", x.exam(3, 2, 50), 500000000);
        C.due("exam(12, 0, 33)", x.exam(12, 0, 33), 1000000000);
        C.due("exam(12, 12, 100)", x.exam(12, 12, 100), 1000000000);
        C.due("exam(12, 13, 100)", x.exam(12, 13, 100), 0);
        C.due("exam(1, 1, 0)", x.exam(1, 1, 0), 0);
        // 10^9 / 1000 = 10^6 .. 1 part is left at 3 of 100 by six questions: .729 cut to 0.
        C.due("exam(6, 6, 3)", x.exam(6, 6, 3), 0);
        C.due("exam(5, 5, 3)", x.exam(5, 5, 3), 24);
        C.due("exam(12, 12, 50): 1953125 halved thrice, cut", x.exam(12, 12, 50), 244140);
        C.due("exam(0, 0, 50)", x.exam(0, 0, 50), NONE);
        C.due("exam(13, 0, 50)", x.exam(13, 0, 50), NONE);
        C.due("exam(1, -1, 50)", x.exam(1, -1, 50), NONE);
        C.due("exam(1, 14, 50)", x.exam(1, 14, 50), NONE);
        C.due("exam(1, 1, 101)", x.exam(1, 1, 101), NONE);
        C.due("exam(1, 1, -1)", x.exam(1, 1, -1), NONE);
    }

    private static void learnt() {
        SnowBooks x = Check.hall("pt5d9b1;pt6d9b1;pt7d9b2;rb0n1;rb0n2");
        C.due("nothing", x.learnt(0), 0);
        x.read(0, 0);
        x.read(1, 0);
        C.due("of the book it needs", x.learnt(0), 1);
        C.due("not of another", x.learnt(1), 0);
        C.due("learnt(2)", x.learnt(2), NONE);
        C.due("learnt(-1)", x.learnt(-1), NONE);
    }

    private static void quiet() {
        SnowBooks x = Check.hall("sw3h1;pd1;pc1d9;pc2d2;rb5");
        // 4 in the cell, 3 a step away: 1 + 3, 1 + 4 + 2, 3 + 2.
        C.due("the quiet cell", x.quiet(0, 0), 0);
        C.due("what would melt there", x.quiet(0, 1), 4);
        SnowBooks y = Check.hall("sw3h1;pd9;r");
        C.due("a cell that is far", y.quiet(0, 0), 2);
        C.due("nothing melts", y.quiet(0, 1), 0);
        SnowBooks z = Check.hall("sw2h1;pd9;r;rc1");
        Check.law(z, "y:1+n");
        C.due("others in a cell", z.quiet(0, 0), 0);
        C.due("others in the other", z.quiet(1, 0), 1);
        C.due("quiet(2, 0)", z.quiet(2, 0), NONE);
        C.due("quiet(-1, 0)", z.quiet(-1, 0), NONE);
        C.due("quiet(0, 2)", z.quiet(0, 2), NONE);
        C.due("quiet(0, -1)", z.quiet(0, -1), NONE);
    }

    private static void far() {
        SnowBooks x = Check.hall("sw6h5;pc0d1;pc29d9;pc5d9;pc6d9;r");
        C.due("from end to end", x.far(), 9);
        x.hare(0);
        C.due("of those that are there", x.far(), 8);
        for (int i = 0; i < 3; i++) {
            x.hare(29);
            x.hare(5);
        }
        C.due("one alone", x.far(), 0);
        C.due("no hall", new SnowBooks().far(), NONE);
    }

    /** Twelve pages (said: their number, 10 and 11 as 0 and 1) in cells 0 to 11, six readers who melt nothing. */
    private static SnowBooks full() {
        StringBuilder text = new StringBuilder("sw6h5f0a99");
        for (int p = 0; p < 12; p++) {
            text.append(";pc").append(p).append('t').append(p % 10).append('b').append(p / 6);
        }
        for (int r = 0; r < 6; r++) {
            text.append(";rb0v9n").append(r % 2);
        }
        return Check.hall(text.toString());
    }

    private static void fullHall() {
        SnowBooks x = full();
        C.due("pages", x.count(0), 12);
        C.due("readers", x.count(1), 6);
        C.due("six pages to six readers", x.share(1, 0), 6);
        C.due("nothing lost by it", x.share(1, 1), 0);
        C.due("all there", x.left(0), 4095);
        C.due("the last page lasts", x.last(11), NONE);
        C.due("far", x.far(), 6);
        for (int r = 0; r < 6; r++) {
            C.due("read(" + r + ", .)", x.read(r, r), r);
        }
        C.due("needy", x.needy(), 63);
        C.due("who", x.who(0), 63);
        x.night();
        for (int r = 0; r < 6; r++) {
            C.due("read(" + r + ", . + 6)", x.read(r, r + 6), (r + 6) % 10);
        }
        C.due("who of the other", x.who(1), 63);
        C.due("known", x.known(), 4095);
        C.due("sure", x.sure(), 0);
        x.night();
        for (int r = 0; r < 5; r++) {
            C.due("go", x.go(r, 11) >= 0, true);
        }
        x.night();
        for (int r = 0; r < 5; r++) {
            C.due("tell", x.tell(r, 5), 2);
        }
        C.due("one knows all", x.who(1), 32);
        C.due("needy then", x.needy(), 31);
        C.due("sure then", x.sure(), 0xfff & ~(1 << 5 | 1 << 11));
        C.due("learnt", x.learnt(5), 6);
        C.due("its bits", x.reader(5, 5), 4095);
        C.due("likely", x.likely(11, 0), 1);
    }

    private static void fullHallAsked() {
        SnowBooks x = full();
        C.due("a place: farthest from all", x.placeFor(11, 0), 29);
        C.due("its steps", x.placeFor(11, 1), 4);
        C.due("quiet", x.quiet(5, 1), 0);
        C.due("split", x.split(), 0);
        C.due("breathed by all", x.breathed(11, 11, 0, 63), 63);
        Check.law(x, "y:1");
        C.due("the last cell's reader", x.loss(5, 11), 3);
        C.due("six readers: 3 at the row's ends, 4 else", x.share(1, 1), 2 * 3 + 4 * 4);
        C.due("breathed by six", x.breathed(11, 11, 6, 0), 63);
        C.due("hare at the last", x.hare(11), 3);
        x.hare(11);
        C.due("one is lost", x.count(9), 1);
        C.due("five are left of it, six there were", x.order(0, 1, 0) != HIDDEN, true);
        C.due("centuries", x.centuries(60, 5), 60);
        C.due("the log", x.count(11), 60);
    }
}
