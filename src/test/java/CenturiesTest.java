import java.math.BigInteger;

/** Promises 11 and 19: centuries and their slips. */
final class CenturiesTest {
    private static final Check C = new Check("CenturiesTest");
    private static final int NONE = SnowBooks.NONE;
    private static final BigInteger TURN = BigInteger.ONE.shiftLeft(64);
    private static BigInteger x;

    public static void main(String[] args) {
        bounds();
        deeds();
        draws();
        slipping();
        lostUnknown();
        doneToday();
        C.end();
    }

    private static int draw(int m) {
        x = x.multiply(new BigInteger("6364136223846793005")).add(new BigInteger("1442695040888963407")).mod(TURN);
        return x.shiftRight(33).mod(BigInteger.valueOf(m)).intValue();
    }

    private static void start(long seed) {
        x = BigInteger.valueOf(seed).mod(TURN);
    }

    private static void bounds() {
        SnowBooks s = new SnowBooks();
        C.due("without a hall", s.centuries(1, 1), NONE);
        s = Check.hall("p;r");
        C.due("centuries(0, 1)", s.centuries(0, 1), NONE);
        C.due("centuries(61, 1)", s.centuries(61, 1), NONE);
        C.due("centuries(-1, 1)", s.centuries(-1, 1), NONE);
        C.due("no day", s.count(6), 0);
        C.due("centuries(60, 1)", s.centuries(60, 1), 60);
        C.due("and 60 more", s.centuries(60, -1), 120);
        C.due("log", s.count(11), 60);
        C.due("acts", s.count(12), 40);
    }

    private static void deeds() {
        SnowBooks s = Check.hall("pd9t4;r");
        C.due("a read and a night", s.centuries(1, 5), 1);
        C.due("acts", s.count(12), 2);
        C.due("the night", s.log(0, 0), 4);
        C.due("the read", s.log(1, 0), 0);
        C.due("its loss", s.log(1, 3), 2);
        C.due("memory", s.memory(0, 0), 4);
        C.due("undo", s.undo(), 1);
        C.due("its deed", s.reader(0, 4), 1);
        C.due("undo", s.undo(), 0);
        C.due("depth", s.page(0, 1), 9);
        SnowBooks far = Check.hall("pc19;r");
        C.due("none within speed", far.centuries(3, 5), 3);
        C.due("three nights alone", far.count(12), 3);
    }

    /** Each page lies in a cell of its own, all within speed; nothing melts: so each draw is a read. */
    private static void draws() {
        long[] seeds = {0, 1, -1, 123456789012345L, Long.MIN_VALUE, Long.MAX_VALUE};
        for (long seed : seeds) {
            SnowBooks s = Check.hall("sf0a99;p;pc1;pc2;pc3;pc4;pc5;pc6;rb0v9;rb0v9");
            s.centuries(9, seed);
            start(seed);
            int[] pages = new int[27];
            for (int night = 0; night < 9; night++) {
                pages[night * 3] = draw(7);
                pages[night * 3 + 1] = draw(7);
                pages[night * 3 + 2] = NONE;
            }
            for (int i = 0; i < 27; i++) {
                C.due("seed " + seed + ", log(" + i + ", 2)", s.log(i, 2), pages[26 - i]);
            }
        }
    }

    private static void slipping() {
        for (int slips = 0; slips < 100; slips += 33) {
            SnowBooks s = Check.hall("sf0a99;pt8d1;rb9");
            s.slips(slips);
            s.centuries(60, 77 + slips);
            start(77 + slips);
            int word = 8;
            for (int night = 0; night < 60; night++) {
                draw(1);
                // A recut page has 9, a read melts 8, the next one the rest.
                boolean lost = night % 3 == 1;
                if (lost && draw(100) < slips) {
                    word = (word + 1) % 10;
                }
            }
            C.due("what it says at slips " + slips, s.page(0, 3), word);
            C.due("what is known at slips " + slips, s.memory(0, 0), word);
        }
        SnowBooks s = Check.hall("sf0a99;pt9d1;rb9");
        s.read(0, 0);
        s.night();
        s.slips(99);
        s.centuries(1, 3);
        C.due("9 becomes 0", s.page(0, 3), 0);
        C.due("in its memory too", s.memory(0, 0), 0);
        s.undo();
        C.due("undone with its recut", s.undo() == 2 && s.page(0, 3) == 9 && s.memory(0, 0) == 9, true);
        s.recut(0, 0);
        C.due("no slip in a day's recut", s.page(0, 3), 9);
    }

    private static void lostUnknown() {
        SnowBooks s = Check.hall("pd1;rb9;rb0v0c19");
        s.hare(0);
        s.centuries(5, 9);
        C.due("a lost one that nobody knows", s.count(12), 6);
        SnowBooks far = Check.hall("sw6h1;pd1;rb9v2");
        far.read(0, 0);
        far.night();
        far.go(0, 2);
        far.night();
        far.go(0, 3);
        far.centuries(4, 9);
        C.due("a lost one too far", far.count(12), 9);
    }

    private static void doneToday() {
        SnowBooks s = Check.hall("sf0a99;p;pc1;pc2;rb0v9;rb0v9");
        s.read(0, 2);
        s.centuries(1, 42);
        start(42);
        C.due("one who has done a deed draws nothing", s.log(1, 2), draw(3));
        C.due("the other one read", s.log(1, 1), 1);
        C.due("acts", s.count(12), 3);
    }
}
