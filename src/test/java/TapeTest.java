/** Promises 1 to 5: a new object, the tape, faults and texts. */
final class TapeTest {
    private static final Check C = new Check("TapeTest");
    private static final int NONE = SnowBooks.NONE;

    public static void main(String[] args) {
        newObject();
        tape();
        hallFaults();
        hallEnds();
        lawFaults();
        planFaults();
        texts();
        C.end();
    }

    private static void newObject() {
        SnowBooks x = new SnowBooks();
        int[] counts = {0, 0, 0, 0, 0, NONE, 0, 0, 0, 0, 0, 0, 0, SnowBooks.HIDDEN};
        for (int i = 0; i < counts.length; i++) {
            C.due("count(" + i + ") of a new one", x.count(i), counts[i]);
        }
        C.due("count(-1)", x.count(-1), SnowBooks.HIDDEN);
        C.due("hall(0) of a new one", x.hall(0), NONE);
        C.due("night of a new one", x.night(), NONE);
        C.due("undo of a new one", x.undo(), NONE);
        C.due("back of a new one", x.back(), NONE);
        C.dueThrow(x, 0, 0);
    }

    private static void tape() {
        SnowBooks x = new SnowBooks();
        C.due("feed of zeros", x.feed(0, 0, 0, 0, 0), 0);
        C.due("feed highest first", x.feed(('p' << 24) | ';', 0, 'r', 0, 0), 3);
        C.due("fault of p;r", x.fault(0), NONE);
        C.due("feed of signs below 0", x.feed(-1, 0, 0, 0, 0), 7);
        C.due("fault behind p;r", x.fault(0), 3);
        C.due("end(8)", x.end(8), false);
        C.due("end(-1)", x.end(-1), false);
        C.due("end(7)", x.end(7), true);
        C.due("end(3)", x.end(3), true);
        C.due("bytes", x.count(4), 3);
        C.due("fault of what is left", x.fault(0), NONE);
        x.end(0);
        for (int i = 1; i <= 12; i++) {
            C.due("feed of twenty", x.feed(0x20202020, 0x20202020, 0x20202020, 0x20202020, 0x20202020), 20 * i);
        }
        C.due("feed beyond 240", x.feed(0, 0, 1, 0, 0), NONE);
        C.due("feed of nothing at 240", x.feed(0, 0, 0, 0, 0), 240);
        C.due("fault of 240 blanks", x.fault(1), 240);
        for (int i = 0; i < 5; i++) {
            int[] n = new int[5];
            n[i] = 0x70000070;
            x.end(239);
            C.due("two bytes of number " + i + " at 239", x.feed(n[0], n[1], n[2], n[3], n[4]), NONE);
            x.end(238);
            C.due("two bytes of number " + i + " at 238", x.feed(n[0], n[1], n[2], n[3], n[4]), 240);
        }
        x.end(239);
        C.due("feed of two at 239", x.feed(0x0100, 0, 0, 0, 1), NONE);
        C.due("bytes behind what was refused", x.count(4), 239);
        C.due("feed of one at 239", x.feed(0, 0, 0, 0, 'p'), 240);
    }

    private static void hallFaults() {
        C.fault(0, "p;r", NONE);
        C.fault(0, "r;p", NONE);
        C.fault(0, "", 0);
        C.fault(0, "   ", 3);
        C.fault(0, ";p;r", 0);
        C.fault(0, "p;;r", 2);
        C.fault(0, "q", 0);
        C.fault(0, "p;r x", 4);
        C.fault(0, "p;rr", 3);
        C.fault(0, "pw1;r", 1);
        C.fault(0, "rd1;p", 1);
        C.fault(0, "p;r;sb1", 5);
        C.fault(0, "p c 1 2;r", 6);
        C.fault(0, "pc 12;r", NONE);
        C.fault(0, " p c 1 9 ; r ", 7);
        C.fault(0, " p c 19 ; r ", NONE);
        C.fault(0, "pc1d2b3t4;rc1b2v3n4;sw6h5c99f9a99", NONE);
        C.fault(0, "pt9b4d9c0;rn4v9b9c0;sa1f0c0h1w1", NONE);
        C.fault(0, "pc1c2;r", 3);
        C.fault(0, "p;rb1b", 5);
        C.fault(0, "sw2w2;p;r", 3);
        C.fault(0, "s;p;s;r", 4);
        C.fault(0, "pc05;r", NONE);
        C.fault(0, "pc005;r", 4);
        C.fault(0, "pc305;r", 4);
        C.fault(0, "pc30;r", 3);
        C.fault(0, "pc29;r;sw6h5", NONE);
        C.fault(0, "pd0;r", 2);
        C.fault(0, "pd00;r", 3);
        C.fault(0, "pd09;r", NONE);
        C.fault(0, "pd10;r", 3);
        C.fault(0, "pb5;r", 2);
        C.fault(0, "pt10;r", 3);
        C.fault(0, "p;rb10", 5);
        C.fault(0, "p;rv10", 5);
        C.fault(0, "p;rn5", 4);
        C.fault(0, "p;rc30", 5);
        C.fault(0, "sw0;p;r", 2);
        C.fault(0, "sw7;p;r", 2);
        C.fault(0, "sh0;p;r", 2);
        C.fault(0, "sh6;p;r", 2);
        C.fault(0, "sf10;p;r", 3);
        C.fault(0, "sa0;p;r", 2);
        C.fault(0, "sc100;p;r", 4);
        C.fault(0, "pcx;r", 2);
        C.fault(0, (char) 240 + "p;r", 0);
    }

    private static void hallEnds() {
        C.fault(0, "p", 1);
        C.fault(0, "r", 1);
        C.fault(0, "s", 1);
        C.fault(0, "p;r;", 4);
        C.fault(0, "p;r; ", 5);
        C.fault(0, "p;rc", 4);
        C.fault(0, "pc20;r", 6);
        C.fault(0, "pc19;r", NONE);
        C.fault(0, "p;rc20", 6);
        C.fault(0, "p;rc20 ; sw6 ", NONE);
        C.fault(0, "pc3;r;sw1h3 ", 12);
        C.fault(0, "pc2;r;sw1h3", NONE);
        C.fault(0, "sw2h1;pc2;rx", 11);
        C.fault(0, "p;p;p;p;p;p;p;p;p;p;p;p;r", NONE);
        C.fault(0, "p;p;p;p;p;p;p;p;p;p;p;p;p", 24);
        C.fault(0, "p;r;r;r;r;r;r", NONE);
        C.fault(0, "p;r;r;r;r;r;r;r", 14);
    }

    private static void lawFaults() {
        C.fault(1, "y:1", NONE);
        C.fault(1, "", 0);
        C.fault(1, "x", 0);
        C.fault(1, "y", 1);
        C.fault(1, "y1", 1);
        C.fault(1, "y:", 2);
        C.fault(1, "y:;", 2);
        C.fault(1, "y:1;", 4);
        C.fault(1, "y:1;y:2", NONE);
        C.fault(1, " y : 1 ; y : 2 ", NONE);
        C.fault(1, "y:b+c-d*s/n+t", NONE);
        C.fault(1, "y:w", 2);
        C.fault(1, "y:1234", NONE);
        C.fault(1, "y:12345", 6);
        C.fault(1, "y:00000", 6);
        C.fault(1, "y:1 2", 4);
        C.fault(1, "y:-1", 2);
        C.fault(1, "y:1+", 4);
        C.fault(1, "y:1+*2", 4);
        C.fault(1, "y:[1+2", 6);
        C.fault(1, "y:[1+2]*3", NONE);
        C.fault(1, "y:[1=2]", 4);
        C.fault(1, "y:(1)", 4);
        C.fault(1, "y:(1=2)", 7);
        C.fault(1, "y:(1=2)?3", NONE);
        C.fault(1, "y:(1=2)=3", 7);
        C.fault(1, "y:1?2", 3);
        C.fault(1, "y:1&2", 3);
        C.fault(1, "y:1|2", 3);
        C.fault(1, "y:1=2", 5);
        C.fault(1, "y:1=2;", 5);
        C.fault(1, "y:1=2?", 6);
        C.fault(1, "y:1=2?3", NONE);
        C.fault(1, "y:1=2=3", 5);
        C.fault(1, "y:1<2&3>4|!b=c?[d]", NONE);
        C.fault(1, "y:1=2&3?4", 7);
        C.fault(1, "y:1=2?3=4", 7);
        C.fault(1, "y:1=2?(3)", 6);
        C.fault(1, "y:!1?2", 4);
        C.fault(1, "y:!(1=2&!3=4)?2", NONE);
        C.fault(1, "y:1+(2)", 4);
        C.fault(1, "y:[[[[[[1]]]]]]", NONE);
        C.fault(1, "y:[[[[[[[1]]]]]]]", 8);
        C.fault(1, "y:!!!!!!1=1?1", NONE);
        C.fault(1, "y:!!!!!![1]=1?1", 8);
        C.fault(1, "y:((((((1=1))))))?1", NONE);
        C.fault(1, "y:(((((((1=1)))))))?1", 8);
        C.fault(1, "y:!!(([[1]]=1))?1", NONE);
        C.fault(1, "y:!!(([[[1]]]=1))?1", 8);
        C.fault(1, "y:!!(([[1]]=1))&!!(([[1]]=1))?[[[[[[1]]]]]]", NONE);
    }

    private static void planFaults() {
        C.fault(2, "n", NONE);
        C.fault(2, "", 0);
        C.fault(2, "x", 0);
        C.fault(2, "n;", 2);
        C.fault(2, "n n", 2);
        C.fault(2, "r00", NONE);
        C.fault(2, "r911", NONE);
        C.fault(2, "r912", 3);
        C.fault(2, "r920", 3);
        C.fault(2, "r9200", 4);
        C.fault(2, "c0110", 4);
        C.fault(2, "g029;g0000", 9);
        C.fault(2, "g029;g000", NONE);
        C.fault(2, "g029;g00", NONE);
        C.fault(2, "g030", 3);
        C.fault(2, "r", 1);
        C.fault(2, "r0", 2);
        C.fault(2, "rx", 1);
        C.fault(2, "r0x", 2);
        C.fault(2, "c0;", 2);
        C.fault(2, " r 0 1 ; c 1 11 ; g 2 29 ; n ", NONE);
        C.fault(2, "r0 1 1", 5);
        C.fault(2, "n;n;n;n;n;n;n;n;n;n;n;n;n;n;n;n", NONE);
        C.fault(2, "n;n;n;n;n;n;n;n;n;n;n;n;n;n;n;n ;n", 32);
        C.fault(2, "n;n;n;n;n;n;n;n;n;n;n;n;n;n;n;nn", 31);
    }

    private static void texts() {
        SnowBooks x = new SnowBooks();
        Check.feed(x, "p;p;r");
        C.due("fault(-1)", x.fault(-1), -2);
        C.due("fault(3)", x.fault(3), -2);
        C.due("text(-1)", x.text(-1), NONE);
        C.due("text(3)", x.text(3), NONE);
        C.due("text(0)", x.text(0), 2);
        C.due("bytes behind text(0)", x.count(4), 0);
        C.due("text(0) of nothing", x.text(0), NONE);
        C.due("PAGES still", x.count(0), 2);
        for (int i = 0; i < 4; i++) {
            C.due("law " + i, Check.text(x, 1, "y:1"), i);
            C.due("plan " + i, Check.text(x, 2, "n;r00"), i);
        }
        C.due("a fifth law", Check.text(x, 1, "y:1"), NONE);
        C.due("bytes behind a fifth law", x.count(4), 3);
        C.due("no fault in a fifth law", x.fault(1), NONE);
        C.due("a fifth plan", Check.text(x, 2, "n"), NONE);
        C.due("no fault in a fifth plan", x.fault(2), NONE);
        C.due("LAWS", x.count(2), 4);
        C.due("PLANS", x.count(3), 4);
        newHall(x);
    }

    private static void newHall(SnowBooks x) {
        x.law(2);
        x.slips(7);
        x.read(0, 1);
        x.night();
        x.image();
        C.due("a new hall", Check.text(x, 0, "pt4;r;r"), 1);
        int[] counts = {1, 2, 4, 4, 0, 2, 0, 20, 7, 0, 5, 0, 0};
        for (int i = 0; i < counts.length; i++) {
            C.due("count(" + i + ") of the new hall", x.count(i), counts[i]);
        }
        C.due("no image of this hall", x.back(), NONE);
        C.due("nothing to undo", x.undo(), NONE);
        C.due("nobody knows", x.known(), 0);
        C.due("the cold is as told", x.hall(2), 40);
        C.due("a refused hall", Check.text(x, 0, "pc20;r"), NONE);
        C.due("leaves the hall", x.page(0, 3), 4);
    }
}
