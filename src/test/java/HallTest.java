/** Promises 6 to 12: what is told of a hall, laws and melting. */
final class HallTest {
    private static final Check C = new Check("HallTest");
    private static final int NONE = SnowBooks.NONE;

    public static void main(String[] args) {
        told();
        usual();
        memories();
        plainMelt();
        laws();
        lawNumbers();
        lawConditions();
        slips();
        C.end();
    }

    private static void told() {
        SnowBooks x = Check.hall("sw6h5c30f2a9;pc29d9b4t9;pc3d1b2t7;rc28b9v8n4;rc1b0v0n2");
        int[] hall = {6, 5, 30, 2, 9, NONE};
        for (int i = 0; i < hall.length; i++) {
            C.due("hall(" + i + ")", x.hall(i), hall[i]);
        }
        C.due("hall(-1)", x.hall(-1), NONE);
        int[][] pages = {{29, 9, 4, 9}, {3, 1, 2, 7}};
        int[][] readers = {{28, 9, 8, 4, 0, 0}, {1, 0, 0, 2, 0, 0}};
        for (int p = 0; p < 2; p++) {
            for (int i = 0; i < 4; i++) {
                C.due("page(" + p + ", " + i + ")", x.page(p, i), pages[p][i]);
            }
            for (int i = 0; i < 6; i++) {
                C.due("reader(" + p + ", " + i + ")", x.reader(p, i), readers[p][i]);
            }
        }
        C.due("page(0, 4)", x.page(0, 4), NONE);
        C.due("page(0, -1)", x.page(0, -1), NONE);
        C.due("page(2, 0)", x.page(2, 0), NONE);
        C.due("page(-1, 0)", x.page(-1, 0), NONE);
        C.dueThrow(x, 2, 0);
        C.dueThrow(x, -1, 0);
        C.dueThrow(x, 0, 6);
        C.dueThrow(x, 0, -1);
        C.due("melt of a far one", x.melt(0, 1, 28), 0);
        x.night();
        C.due("cold now", x.hall(2), 28);
    }

    private static void usual() {
        SnowBooks x = Check.hall("p;r");
        int[] hall = {5, 4, 40, 1, 60};
        int[] page = {0, 5, 0, 0};
        int[] reader = {0, 3, 3, 0};
        for (int i = 0; i < 5; i++) {
            C.due("usual hall(" + i + ")", x.hall(i), hall[i]);
        }
        for (int i = 0; i < 4; i++) {
            C.due("usual page(0, " + i + ")", x.page(0, i), page[i]);
            C.due("usual reader(0, " + i + ")", x.reader(0, i), reader[i]);
        }
    }

    private static void memories() {
        SnowBooks x = Check.hall("pt3d1;pc1t0d9;r;r");
        C.due("memory ahead", x.memory(0, 0), NONE);
        C.due("read", x.read(0, 0), 3);
        C.due("memory", x.memory(0, 0), 3);
        C.due("its bits", x.reader(0, 5), 1);
        C.due("its deed", x.reader(0, 4), 1);
        C.due("the other's deed", x.reader(1, 4), 0);
        C.due("the other's memory", x.memory(1, 0), NONE);
        C.due("memory(0, 2)", x.memory(0, 2), NONE);
        C.due("memory(0, -1)", x.memory(0, -1), NONE);
        C.due("memory(2, 0)", x.memory(2, 0), NONE);
        C.due("memory(-1, 0)", x.memory(-1, 0), NONE);
        C.due("what a lost page says", x.page(0, 3), 3);
        C.due("its depth", x.page(0, 1), 0);
        C.due("melt of a lost page", x.melt(0, 0, 0), NONE);
        C.due("known of 0 is known", x.read(1, 1), 0);
        C.due("the other's bits", x.reader(1, 5), 2);
    }

    private static void plainMelt() {
        SnowBooks x = Check.hall("sw3h3c39f1;pc4;rb4c8;rb9;rb0");
        C.due("its very cell: 4 - 1 + 1", x.melt(0, 0, 4), 4);
        C.due("one step: 4 - 1", x.melt(0, 0, 1), 3);
        C.due("one step to the side", x.melt(0, 0, 3), 3);
        C.due("two steps", x.melt(0, 0, 0), 0);
        C.due("at most 9: 9 - 1 + 1", x.melt(1, 0, 4), 9);
        C.due("at least 0: 0 - 1", x.melt(2, 0, 3), 0);
        C.due("at least 0: 0 - 1 + 1", x.melt(2, 0, 4), 0);
        C.due("no such cell", x.melt(0, 0, 9), NONE);
        C.due("no such cell below", x.melt(0, 0, -1), NONE);
        C.due("no such page", x.melt(0, 1, 0), NONE);
        C.due("no such page below", x.melt(0, -1, 0), NONE);
        C.due("no such reader", x.melt(3, 0, 0), NONE);
        C.due("no such reader below", x.melt(-1, 0, 0), NONE);
        SnowBooks cold = Check.hall("sc0;p;rb9;rb1");
        C.due("held at 9: 9 + 1", cold.melt(0, 0, 0), 9);
        C.due("1 + 1", cold.melt(1, 0, 0), 2);
        SnowBooks row = Check.hall("sw5h2;pc5;r");
        C.due("the end of a row is far from the next one's start", row.melt(0, 0, 4), 0);
    }

    private static void laws() {
        SnowBooks x = Check.hall("sw3h1;pc1d7;rb2;rc1;rc1;rc2");
        C.due("law(0) of none", x.law(0), false);
        C.due("law(NONE)", x.law(NONE), true);
        C.due("a law", Check.text(x, 1, "y:d"), 0);
        C.due("it does not hold yet", x.count(5), NONE);
        C.due("law(1) of one", x.law(1), false);
        C.due("law(-2)", x.law(-2), false);
        C.due("law(0)", x.law(0), true);
        C.due("law(0) again", x.law(0), true);
        C.due("it holds", x.count(5), 0);
        C.due("d", x.melt(0, 0, 1), 7);
        C.due("far is 0 by any law", Check.text(x, 1, "y:9"), 1);
        x.law(1);
        SnowBooks far = Check.hall("pc19;r");
        Check.law(far, "y:9");
        C.due("far", far.melt(0, 0, 0), 0);
        C.due("near", far.melt(0, 0, 14), 9);
        Check.law(x, "y:n");
        C.due("n of one who is not there", x.melt(0, 0, 1), 2);
        C.due("n of one who is there", x.melt(1, 0, 1), 1);
        C.due("n elsewhere", x.melt(1, 0, 2), 1);
        Check.law(x, "y:s+b+t");
        C.due("s 1 + b 2 + t 0", x.melt(0, 0, 0), 3);
        C.due("s 0 + b 2 + t 0", x.melt(0, 0, 1), 2);
        x.night();
        C.due("s 0 + b 2 + t 1", x.melt(0, 0, 1), 3);
        C.due("no law", x.law(NONE), true);
        C.due("as at first: 2 - 39/20 + 1", x.melt(0, 0, 1), 2);
    }

    /** The melt by a law, of a page of depth 7 by a reader of breath 3 at cold 40 on day 0, alone, in its cell. */
    private static int worth(String law) {
        SnowBooks x = Check.hall("pd7;r");
        Check.law(x, law);
        return x.melt(0, 0, 0);
    }

    private static void worthIs(String law, int want) {
        C.due("worth of " + law, worth(law), want);
    }

    private static void lawNumbers() {
        worthIs("y:2+3*2", 8);
        worthIs("y:[2+1]*2", 6);
        worthIs("y:9-3-2", 4);
        worthIs("y:8/2/2", 2);
        worthIs("y:8/2*2", 8);
        worthIs("y:7/2", 3);
        worthIs("y:[0-7]/2+9", 6);
        worthIs("y:5/0+1", 1);
        worthIs("y:0-1", 0);
        worthIs("y:12", 9);
        worthIs("y:c/10", 4);
        worthIs("y:b+s+n+t", 3);
        worthIs("y: d - 0007 + 2", 2);
        worthIs("y:9999*9999/9999", 9);
        worthIs("y:9999*9999/9999-95", 5);
        worthIs("y:[0-9999]*9999/9999+105", 5);
        worthIs("y:9999*9999+9999-9999*99-9999", 9);
        worthIs("y:9999*9999+9999*9999-9999*100", 9);
        worthIs("y:[9999*9999+1-9999*100]/10", 9);
        worthIs("y:[9999*9999+1-9999*100]/20", 5);
        worthIs("y:9999*9999-9999*100-95", 5);
        worthIs("y:[0-9999]*9999+9999*100+105", 5);
        worthIs("y:9999*100+9999-9999*100-95", 5);
        worthIs("y:0-9999*100-9999+9999*100+105", 5);
    }

    private static void lawConditions() {
        worthIs("y:1=1?2;y:3", 2);
        worthIs("y:1=2?2;y:3", 3);
        worthIs("y:1=2?2", 0);
        worthIs("y:1=2?2;y:2=3?4;y:b=3?5;y:6", 5);
        worthIs("y:4;y:5", 4);
        worthIs("y:1<2?3", 3);
        worthIs("y:2<2?3", 0);
        worthIs("y:2>2?3", 0);
        worthIs("y:3>2?3", 3);
        worthIs("y:!1=1?2;y:3", 3);
        worthIs("y:!!1=1?2;y:3", 2);
        worthIs("y:1=1|1=1&1=2?2;y:3", 2);
        worthIs("y:(1=1|1=1)&1=2?2;y:3", 3);
        worthIs("y:1=2&1=1|1=1?2;y:3", 2);
        worthIs("y:!1=2&1=2?2;y:3", 3);
        worthIs("y:!(1=2&1=2)?2;y:3", 2);
        worthIs("y:1+1*2=3&[1+1]*2=4?2;y:3", 2);
        worthIs("y:d>b&c=40&t=0&n=0&s=0?8;y:3", 8);
    }

    private static void slips() {
        SnowBooks x = new SnowBooks();
        C.due("slips(0)", x.slips(0), false);
        C.due("slips(100)", x.slips(100), false);
        C.due("slips(-1)", x.slips(-1), false);
        C.due("slips(99)", x.slips(99), true);
        C.due("slips(99) again", x.slips(99), false);
        C.due("SLIPS", x.count(8), 99);
        C.due("slips(0) again", x.slips(0), true);
    }
}
