/** Promises 13 to 18, 20 and 21: deeds, nights, hares, undo and the log. */
final class ActsTest {
    private static final Check C = new Check("ActsTest");
    private static final int NONE = SnowBooks.NONE;
    private static final int HIDDEN = SnowBooks.HIDDEN;

    public static void main(String[] args) {
        reading();
        refusedReading();
        depthsAsTheyWere();
        recutting();
        going();
        telling();
        nights();
        hares();
        undoing();
        log();
        longLog();
        C.end();
    }

    private static void row(SnowBooks x, int i, int kind, int who, int what, int lost) {
        C.due("log(" + i + ", 0)", x.log(i, 0), kind);
        C.due("log(" + i + ", 1)", x.log(i, 1), who);
        C.due("log(" + i + ", 2)", x.log(i, 2), what);
        C.due("log(" + i + ", 3)", x.log(i, 3), lost);
    }

    private static void reading() {
        // Reader 0 (breath 3, cold 40: 1 a step away, 2 in the cell) goes to cell 1 and reads page 1.
        SnowBooks x = Check.hall("sw3h1;pc0d5t1;pc1d1t2;pc2d9b1t3;rv1;rc1");
        C.due("read(0, 1)", x.read(0, 1), 2);
        C.due("its cell", x.reader(0, 0), 1);
        C.due("page 0", x.page(0, 1), 4);
        C.due("page 1", x.page(1, 1), 0);
        C.due("page 2", x.page(2, 1), 8);
        C.due("what it knows", x.memory(0, 1), 2);
        row(x, 0, 0, 0, 1, 3);
        C.due("again today", x.read(0, 0), NONE);
        C.due("another reads a lost one", x.read(1, 1), NONE);
        C.due("another reads", x.read(1, 2), 3);
        C.due("page 1 is lost for good", x.page(1, 1), 0);
        C.due("lost", x.count(9), 1);
        C.due("depth", x.count(10), 10);
    }

    private static void refusedReading() {
        SnowBooks x = Check.hall("sw3h1;pc2;pd1;rv1;rc2v0");
        C.due("too far", x.read(0, 0), NONE);
        C.due("nothing is done", x.reader(0, 4), 0);
        C.due("no such page", x.read(0, 2), NONE);
        C.due("no such page below", x.read(0, -1), NONE);
        C.due("no such reader", x.read(2, 0), NONE);
        C.due("no such reader below", x.read(-1, 0), NONE);
        C.due("no log of what was refused", x.count(11), 0);
        C.due("speed 0 in its cell", x.read(1, 0), 0);
        SnowBooks slow = Check.hall("sw3h1;pc1;rv0");
        C.due("speed 0 elsewhere", slow.read(0, 0), NONE);
    }

    private static void depthsAsTheyWere() {
        SnowBooks x = Check.hall("pd9;pd4;pd1;r;r;rc1");
        Check.law(x, "y:d>4?3;y:d-n");
        // n is 1: 9 loses 3, 4 loses 3, 1 loses 0.
        C.due("read by depths", x.read(0, 2), 0);
        C.due("page 0", x.page(0, 1), 6);
        C.due("page 1", x.page(1, 1), 1);
        C.due("page 2", x.page(2, 1), 1);
        row(x, 0, 0, 0, 2, 6);
        C.due("by depths as they are then", x.read(1, 1), 0);
        C.due("page 0 then", x.page(0, 1), 3);
        C.due("page 1 then", x.page(1, 1), 1);
        // The third comes into their cell: two others are there.
        Check.law(x, "y:n");
        C.due("n where it goes", x.read(2, 0), 0);
        C.due("page 0 at last", x.page(0, 1), 1);
    }

    private static void recutting() {
        SnowBooks x = Check.hall("sw3h1;pc1d1t4;pc2d5t5;rb9v1;rc2v1");
        C.due("not known", x.recut(0, 0), NONE);
        C.due("read and melt all", x.read(0, 0), 4);
        C.due("lost", x.page(0, 1), 0);
        C.due("it has done a deed", x.recut(0, 0), NONE);
        x.night();
        C.due("no such page", x.recut(0, 2), NONE);
        C.due("no such page below", x.recut(0, -1), NONE);
        C.due("no such reader", x.recut(2, 0), NONE);
        C.due("no such reader below", x.recut(-1, 0), NONE);
        x.go(0, 0);
        x.night();
        C.due("recut a lost one", x.recut(0, 0), 4);
        C.due("its cell", x.reader(0, 0), 1);
        C.due("its deed", x.reader(0, 4), 1);
        C.due("depth 9", x.page(0, 1), 9);
        C.due("nothing melts", x.page(1, 1), 0);
        row(x, 0, 1, 0, 0, 0);
        x.night();
        C.due("recut one that is there", x.recut(0, 0), 4);
        SnowBooks far = Check.hall("sw3h1;pc2;rc1v1");
        far.read(0, 0);
        far.night();
        far.go(0, 1);
        far.night();
        far.go(0, 0);
        far.night();
        C.due("too far", far.recut(0, 0), NONE);
    }

    private static void going() {
        SnowBooks x = Check.hall("sw3h3;p;rv3");
        C.due("too far", x.go(0, 8), NONE);
        C.due("there already", x.go(0, 0), NONE);
        C.due("no such cell", x.go(0, 9), NONE);
        C.due("no such cell below", x.go(0, -1), NONE);
        C.due("no such reader", x.go(1, 1), NONE);
        C.due("no such reader below", x.go(-1, 1), NONE);
        C.due("three steps", x.go(0, 7), 3);
        C.due("its cell", x.reader(0, 0), 7);
        row(x, 0, 2, 0, 7, 0);
        C.due("again today", x.go(0, 8), NONE);
        x.night();
        C.due("one step", x.go(0, 8), 1);
    }

    private static void telling() {
        SnowBooks x = Check.hall("sw3h1;pt1d9;pt2d9;pt3d9;r;r;rc1");
        x.read(0, 0);
        x.read(1, 1);
        x.night();
        C.due("to itself", x.tell(0, 0), NONE);
        C.due("to another cell", x.tell(0, 2), NONE);
        C.due("no such reader", x.tell(3, 0), NONE);
        C.due("no such reader below", x.tell(-1, 0), NONE);
        C.due("no such other", x.tell(0, 3), NONE);
        C.due("no such other below", x.tell(0, -1), NONE);
        C.due("one more", x.tell(0, 1), 1);
        C.due("what is told", x.memory(1, 0), 1);
        C.due("what it knew", x.memory(1, 1), 2);
        C.due("the teller learns nothing", x.memory(0, 1), NONE);
        row(x, 0, 3, 0, 1, 0);
        C.due("again today", x.tell(0, 1), NONE);
        C.due("told ones may tell", x.tell(1, 0), 1);
        x.night();
        C.due("nothing new", x.tell(1, 0), 0);
        C.due("a deed all the same", x.reader(1, 4), 1);
    }

    private static void nights() {
        SnowBooks x = Check.hall("sc3f2a3;pd3;pd1;r");
        x.read(0, 0);
        C.due("day 1", x.night(), 1);
        C.due("cold", x.hall(2), 1);
        C.due("all may do a deed again", x.reader(0, 4), 0);
        row(x, 0, 4, NONE, NONE, 0);
        SnowBooks y = Check.hall("sc3f2a9;pd3;pd1;r");
        y.night();
        C.due("nothing lost", y.count(10), 4);
        C.due("day 2", y.night(), 2);
        C.due("cold 0 at least", y.hall(2), 0);
        C.due("at cold 0 each loses 1", y.count(10), 2);
        row(y, 0, 4, NONE, NONE, 2);
        C.due("day 3", y.night(), 3);
        row(y, 0, 4, NONE, NONE, 1);
        SnowBooks z = Check.hall("sf0a2;pd3;r");
        z.night();
        C.due("ahead of april", z.page(0, 1), 3);
        z.night();
        C.due("in april", z.page(0, 1), 2);
        C.due("a cold that does not fall", z.hall(2), 40);
        z.night();
        C.due("behind april", z.page(0, 1), 1);
        SnowBooks w = Check.hall("sc0;pd3;r");
        w.night();
        C.due("no cold at first", w.page(0, 1), 2);
    }

    private static void hares() {
        SnowBooks x = Check.hall("sw3h1;pd5;pd2;pc1;r");
        C.due("hare(0)", x.hare(0), 5);
        C.due("page 0", x.page(0, 1), 2);
        C.due("page 1", x.page(1, 1), 0);
        C.due("page 2", x.page(2, 1), 5);
        row(x, 0, 5, NONE, 0, 5);
        C.due("hare(0) again", x.hare(0), 2);
        C.due("hare(0) of lost ones", x.hare(0), 0);
        C.due("hare of a bare cell", x.hare(2), 0);
        C.due("acts", x.count(12), 4);
        C.due("hare(3)", x.hare(3), NONE);
        C.due("hare(-1)", x.hare(-1), NONE);
        C.due("acts still", x.count(12), 4);
    }

    private static void undoing() {
        SnowBooks x = Check.hall("sw3h1;pt1d5;pc1t2d9;r;rc1");
        C.due("nothing to undo", x.undo(), NONE);
        x.read(0, 0);
        x.night();
        x.go(0, 1);
        x.tell(1, 0);
        x.hare(0);
        C.due("hare undone", x.undo(), 4);
        C.due("its depth", x.page(0, 1), 3);
        C.due("the log", x.count(11), 4);
        row(x, 0, 3, 1, 0, 0);
        C.due("tell undone", x.undo(), 3);
        C.due("a deed to do", x.reader(1, 4), 0);
        C.due("go undone", x.undo(), 2);
        C.due("its cell", x.reader(0, 0), 0);
        C.due("night undone", x.undo(), 1);
        C.due("the day", x.count(6), 0);
        C.due("the cold", x.hall(2), 40);
        C.due("the deed", x.reader(0, 4), 1);
        C.due("read undone", x.undo(), 0);
        C.due("depths", x.count(10), 14);
        C.due("it forgets", x.memory(0, 0), NONE);
        C.due("may do a deed", x.reader(0, 4), 0);
        C.due("no log", x.count(11), 0);
        C.due("none left", x.undo(), NONE);
        C.due("done anew", x.read(0, 0), 1);
        x.night();
        Check.law(x, "y:1");
        x.slips(3);
        x.recut(0, 0);
        x.undo();
        C.due("a law is no act", x.count(5), 0);
        C.due("slips are no act", x.count(8), 3);
        C.due("recut undone", x.page(0, 1), 3);
    }

    private static void log() {
        SnowBooks x = Check.hall("p;r");
        C.due("log of nothing", x.log(0, 0), HIDDEN);
        x.read(0, 0);
        x.night();
        C.due("log(2, 0)", x.log(2, 0), HIDDEN);
        C.due("log(-1, 0)", x.log(-1, 0), HIDDEN);
        C.due("log(0, 4)", x.log(0, 4), HIDDEN);
        C.due("log(0, -1)", x.log(0, -1), HIDDEN);
        row(x, 0, 4, NONE, NONE, 0);
        row(x, 1, 0, 0, 0, 2);
    }

    private static void longLog() {
        SnowBooks x = Check.hall("sw6h5;pd9;r");
        for (int i = 0; i < 75; i++) {
            C.due("hare " + i, x.hare(i % 30), i == 0 || i == 30 || i == 60 ? 3 : 0);
            C.due("log behind hare " + i, x.count(11), Math.min(60, i + 1));
            C.due("acts behind hare " + i, x.count(12), Math.min(40, i + 1));
        }
        for (int i = 0; i < 60; i++) {
            C.due("log(" + i + ", 2)", x.log(i, 2), (74 - i) % 30);
        }
        C.due("log(60, 2)", x.log(60, 2), HIDDEN);
        for (int i = 39; i >= 0; i--) {
            C.due("undo", x.undo(), i);
        }
        C.due("the 41st undo", x.undo(), NONE);
        C.due("35 acts are left in the log", x.count(11), 35);
        for (int i = 0; i < 35; i++) {
            C.due("left log(" + i + ", 2)", x.log(i, 2), (34 - i) % 30);
        }
        C.due("depth", x.page(0, 1), 3);
        C.due("one more act", x.hare(0), 3);
        C.due("can be undone", x.count(12), 1);
    }
}
