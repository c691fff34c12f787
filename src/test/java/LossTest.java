/** Promises 25 to 29: LOSS, LEFT, LAST, ORDER, SHARE. */
final class LossTest {
    private static final Check C = new Check("LossTest");
    private static final int NONE = SnowBooks.NONE;
    private static final int HIDDEN = SnowBooks.HIDDEN;

    public static void main(String[] args) {
        loss();
        left();
        last();
        orderDays();
        orderRow();
        orderLost();
        orderRefused();
        share();
        shareLoss();
        shareRefused();
        C.end();
    }

    private static void loss() {
        C.promise(25, "LOSS: DEPTH lost in all, if a READER READ a PAGE now");
        Run x = Run.of("hall sw6h5;pc29d3;pc28d1;pc27;rb9v9c29", "image()");
        // In CELL 29: 8 of 3, 7 of 1; in CELL 28: 8 of 1, 7 of 3, 7 of 5; in CELL 27: 8 of 5, 7 of 1.
        C.still(x, "loss(0, 0)", 4, "loss(0, 1)", 9, "loss(0, 2)", 6);
        C.due(x.again(), "read(0, 1)", 0, "log(0, 3)", 9);
        x = Run.of("hall sw2h1;pd9;r;rc1;rc1", "law y:n+4*s");
        C.still(x, "loss(0, 0)", 0, "loss(1, 0)", 1, "loss(2, 0)", 1);
        C.due(Run.of("hall pd9;r;r", "law y:t+c/20"), "loss(0, 0)", 2, "night()", 1, "loss(0, 0)", 2);

        C.promise(25, "(whether it has done a deed or not, however far).");
        C.still(Run.of("hall sw6h5;pc29d9;pd9;rv0"), "loss(0, 0)", 2, "loss(0, 1)", 2);
        C.due(Run.of("hall pd9;r"), "read(0, 0)", 0, "loss(0, 0)", 2, "go(0, 1)", NONE, "reader(0, 4)", 1);

        C.promise(25, "LOSS. NONE: no such ones, LOST.");
        x = Run.of("hall pd9;pc1d3;r;r", "hare(1)");
        C.still(x, "loss(2, 0)", NONE, "loss(-1, 0)", NONE, "loss(6, 0)", NONE, "loss(2147483647, 0)", NONE);
        C.still(x, "loss(0, 2)", NONE, "loss(0, -1)", NONE, "loss(0, 12)", NONE, "loss(0, -2147483648)", NONE);
        C.still(x, "loss(0, 1)", NONE, "loss(1, 1)", NONE, "loss(1, 0)", 2);
        C.still(Run.of(), "loss(0, 0)", NONE);
    }

    private static void left() {
        C.promise(26, "LEFT: PAGES (bits) that are there behind n (0 .. 99) NIGHTS, if nobody does anything.");
        Run x = Run.of("hall sc2f1a99;pd1;pd3;pd9;r");
        C.still(x, "left(0)", 7, "left(1)", 7, "left(2)", 6, "left(3)", 6, "left(4)", 4, "left(9)", 4, "left(10)", 0);
        C.still(x, "left(98)", 0, "left(99)", 0);
        C.due(x, "night()", 1, "left(0)", 7, "left(1)", 6, "hare(0)", 7, "left(0)", 4, "left(5)", 4,
                "left(6)", 0);
        x = Run.of("hall sc99f0a3;pd1;pd2;r");
        C.still(x, "left(2)", 3, "left(3)", 2, "left(4)", 0);
        C.due(x, "night()", 1, "night()", 2, "left(1)", 2, "night()", 3, "left(0)", 2, "left(1)", 0);
        C.due(Run.of("hall sf0a99;pd1;pd2;r"), "left(98)", 3, "left(99)", 2);
        C.due(Run.of("hall pd9;rb9"), "read(0, 0)", 0, "left(0)", 1);

        C.promise(26, "LEFT, as bits.");
        C.due(Run.of("hall p;p;p;p;p;p;p;p;p;p;p;p;r"), "left(0)", 4095);
        C.due(Run.of("hall p;pc1;p;pc2;r", "hare(0)", "hare(0)"), "left(0)", 10);

        C.promise(26, "NONE: no HALL, out of bounds.");
        C.still(Run.of(), "left(0)", NONE, "left(99)", NONE);
        C.still(Run.of("hall p;r"), "left(100)", NONE, "left(-1)", NONE, "left(2147483647)", NONE, "left(-2147483648)", NONE);
    }

    private static void last() {
        C.promise(27, "LAST: behind how many NIGHTS (0 .. 99) a PAGE is LOST so.");
        Run x = Run.of("hall sc2f1a99;pd1;pd3;pd9;r");
        C.still(x, "last(0)", 2, "last(1)", 4, "last(2)", 10);
        C.due(x, "night()", 1, "last(0)", 1, "last(1)", 3, "hare(0)", 7, "last(0)", 0, "last(1)", 0, "last(2)", 6);
        C.due(Run.of("hall sf0a3;pd1;pd2;r"), "last(0)", 3, "last(1)", 4);
        C.due(Run.of("hall sc0;pd1;r"), "last(0)", 1, "night()", 1, "last(0)", 0);

        C.promise(27, "LAST. NONE: not within 99, no such PAGE.");
        x = Run.of("hall sf0a99;pd1;pd2;r");
        C.still(x, "last(0)", 99, "last(1)", NONE);
        C.due(x, "night()", 1, "last(0)", 98, "last(1)", 99);
        C.due(Run.of("hall sc99f1a99;pd1;pd2;r"), "last(0)", 99, "last(1)", NONE);
        C.still(x, "last(2)", NONE, "last(-1)", NONE, "last(12)", NONE, "last(2147483647)", NONE, "last(-2147483648)", NONE);
        C.still(Run.of(), "last(0)", NONE);
    }

    private static void orderDays() {
        C.promise(28, "ORDER of a BOOK for a READER (apart; PAGES of it that are there, five at most");
        C.still(Run.of("hall sw3h1f0;pd9;pc2d9;pc1b1d9;rb9v9", "night()", "image()"), "order(0, 0, 0)", 1, "order(0, 1, 1)", 22);
        Run six = Run.of("hall sa99f0;pd1;pc1;pc1;pc1;pc1;pc1;rb0");
        C.still(six, "order(0, 0, 0)", HIDDEN, "order(0, 0, 1)", HIDDEN);
        C.due(six, "hare(0)", 1, "order(0, 0, 0)", (((1 * 12 + 2) * 12 + 3) * 12 + 4) * 12 + 5, "order(0, 0, 1)", 0);

        C.promise(28, "one a day, today first, if it has not done a deed");
        // At COLD 20 nothing melts by BREATH 0; at 19, tomorrow, 1.
        Run x = Run.of("hall sw3h1c20f1;pd9;pc2d9;rb0v2");
        C.still(x, "order(0, 0, 1)", 1, "order(0, 0, 0)", 1);
        C.due(x, "go(0, 1)", 1, "order(0, 0, 1)", 2, "order(0, 0, 0)", 1, "night()", 1, "order(0, 0, 1)", 2);
        C.due(Run.of("hall sc1;pd1;rb0"), "order(0, 0, 0)", 0, "go(0, 1)", 1, "order(0, 0, 0)", HIDDEN);
        C.due(Run.of("hall pd9;r;r", "law y:t+1", "go(1, 1)"), "order(0, 0, 1)", 1, "order(1, 0, 1)", 2);

        C.promise(28, "each day a PAGE that is within SPEED STEPS and still there, and a NIGHT)");
        C.due(Run.of("hall sw5h1f0;pc4d9;pc2d9;pd9;rv2"), "order(0, 0, 0)", 2 * 144 + 12, "order(0, 0, 1)", 6);
        C.due(Run.of("hall sw5h1f0;pc4d9;pd9;rv2c2"), "order(0, 0, 0)", HIDDEN);
        C.due(Run.of("hall sw5h1f0;pc4d9;pc2d9;pd9;rv4c2"), "order(0, 0, 0)", 14);
        C.due(Run.of("hall sw2h1f0;pd9;pc1d1;r"), "order(0, 0, 0)", 12, "order(0, 0, 1)", 4);
        C.due(Run.of("hall sw2h1f0;pd1;pc1d1;r"), "order(0, 0, 0)", HIDDEN, "order(0, 0, 1)", HIDDEN);
        C.due(Run.of("hall sc0;pd9;pc19d1;rb0v9"), "order(0, 0, 0)", 12, "order(0, 0, 1)", 2);
        C.due(Run.of("hall sc0;pd9;pc19d2;rb0v9"), "order(0, 0, 0)", 1, "order(0, 0, 1)", 2);
        C.due(Run.of("hall sf0a2;pd1;pc2d1;pc4d1;rb0v9"), "order(0, 0, 0)", HIDDEN);
        C.due(Run.of("hall sf0a3;pd1;pc2d1;pc4d1;rb0v9"), "order(0, 0, 0)", 14);
    }

    private static void orderRow() {
        C.promise(28, "rows of all of them (numbers as digits to the base 12, the first the highest) by which it READS each");
        C.due(Run.of("hall sw5h1f0;pb1d9;pc2d9b1;pc4d9b1;rv9"), "order(0, 1, 0)", 14, "order(0, 1, 1)", 6);
        Run x = Run.of("hall p;p;p;p;p;p;pb1;pb2;pb2;pb2;pb2;pb2;rb0");
        C.due(x, "order(0, 1, 0)", 6, "order(0, 2, 0)", (((7 * 12 + 8) * 12 + 9) * 12 + 10) * 12 + 11, "order(0, 2, 1)", 0);
        C.due(Run.of("hall pd9;r"), "order(0, 0, 0)", 0, "order(0, 0, 1)", 2);
        // One that it KNOWS already is READ all the same.
        C.due(Run.of("hall pd9;pc2d9;rv9", "read(0, 0)", "night()"), "order(0, 0, 0)", 1);

        C.promise(28, "of several the least); that.");
        C.due(Run.of("hall sw5h1f0;pc4d9;pc2d9;pd9;rv9"), "order(0, 0, 0)", 14);
        C.due(Run.of("hall sw5h1f0;pc4d9;pc2d9;pd9;rv2"), "order(0, 0, 0)", 300);
    }

    private static void orderLost() {
        C.promise(28, "the row with the least DEPTH lost in all (MELT alone");
        // By this LAW the deep PAGE melts less when it is READ tomorrow.
        Run x = Run.of("hall sw3h1f0;pd9;pc2d3;rv9", "law y:t=0&d>5?5;y:1");
        C.due(x, "order(0, 0, 0)", 12, "order(0, 0, 1)", 2);
        x = Run.of("hall sw5h1f0;pd9;pc2d8;pc4d3;rv9", "law y:t=1&d>5?5;y:t=0&d>8?7;y:t=2?2;y:1");
        C.due(x, "order(0, 0, 0)", (1 * 12 + 2) * 12, "order(0, 0, 1)", 4);
        // Those of other BOOKS melt, too; no more is lost than there is; what a NIGHT takes does not count.
        C.due(Run.of("hall sw3h1f0;pd9;pc1d1b1;pc2d9;rc1v2"), "order(0, 0, 1)", 5, "order(0, 0, 0)", 2, "order(0, 1, 1)", 3);
        C.due(Run.of("hall pd1;rb9"), "order(0, 0, 1)", 1);
        C.due(Run.of("hall sc0;pd9;pd9;rb0", "law y:t"), "order(0, 0, 1)", 2);
        C.due(Run.of("hall sc0;pd9;pc2d9;rb0"), "order(0, 0, 1)", 2);
    }

    private static void orderRefused() {
        C.promise(28, "ORDER: the row (0), DEPTH lost (1).");
        Run x = Run.of("hall sw5h1f0;p;pb1d9;pc3d9b1;pb2d1;pc4b3d9;rv3;r");
        C.still(x, "order(0, 1, 0)", 14, "order(0, 1, 1)", 2 + 2 + 1 + 2 + 1);

        C.promise(28, "HIDDEN: none, no PAGE of it is there, more than five, no such ones.");
        C.still(x, "order(0, 3, 0)", HIDDEN, "order(0, 3, 1)", HIDDEN);
        C.still(x, "order(0, 4, 0)", HIDDEN);
        x.then("hare(0)");
        C.still(x, "order(0, 2, 0)", HIDDEN, "order(0, 2, 1)", HIDDEN);
        C.still(Run.of("hall sf0;p;p;p;p;p;p;rb0"), "order(0, 0, 0)", HIDDEN, "order(0, 0, 1)", HIDDEN);
        C.still(Run.of("hall sf0;p;p;p;p;p;rb0"), "order(0, 0, 1)", 0);
        C.still(x, "order(2, 1, 0)", HIDDEN, "order(-1, 1, 0)", HIDDEN, "order(6, 1, 0)", HIDDEN, "order(2147483647, 1, 0)", HIDDEN);
        C.still(x, "order(0, 5, 0)", HIDDEN, "order(0, -1, 0)", HIDDEN, "order(0, -2147483648, 0)", HIDDEN);
        C.still(x, "order(0, 1, 2)", HIDDEN, "order(0, 1, -1)", HIDDEN, "order(0, 1, 2147483647)", HIDDEN);
        C.still(Run.of(), "order(0, 0, 0)", HIDDEN);
    }

    private static void share() {
        C.promise(29, "SHARE of a BOOK: each PAGE of it that is there goes to one READER who could READ it now "
                + "(within SPEED STEPS, whatever was done), each READER at most one: the most PAGES");
        // READER 0 alone reaches PAGE 1: so READER 1, who loses more, takes PAGE 0.
        Run x = Run.of("hall sw5h1f0;pd9;pc4d9;pc2d9b1;rv4;rb9v0");
        C.still(x, "share(0, 0)", 2, "share(1, 0)", 1, "share(2, 0)", 0);
        C.due(x.again(), "read(0, 2)", 0, "share(0, 0)", 2, "read(1, 0)", 0, "share(0, 0)", 2);
        C.due(x.again(), "hare(4)", 3, "hare(4)", 3, "share(0, 0)", 2, "hare(4)", 3, "share(0, 0)", 1);
        C.due(Run.of("hall pd1;pd2;pd3;rb9;rb1"), "share(0, 0)", 2);
        C.due(Run.of("hall p;r;r;r"), "share(0, 0)", 1);
        C.due(Run.of("hall sw5h1;pc4;rv3"), "share(0, 0)", 0, "go(0, 1)", 1, "share(0, 0)", 1);
        C.due(Run.of("hall p;p;p;p;p;p;p;p;p;p;p;p;r;r;r;r;r;r"), "share(0, 0)", 6);
        C.due(Run.of("hall sw6h1;pc0;pc1;pc2;pc3;pc4;pc5;rc0v1;rc1v1;rc2v1;rc3v1;rc4v1;rc0v0"), "share(0, 0)", 6);
        C.due(Run.of("hall sw6h1;pc0;pc1;pc2;pc3;pc4;pc5;rc0v1;rc1v1;rc2v1;rc3v1;rc4v1;rc1v0"), "share(0, 0)", 6);
        C.due(Run.of("hall sw6h1;pc0;pc1;pc3;pc4;pc5;rc2v0;rc2v0;rc2v0;rc2v1"), "share(0, 0)", 1);
    }

    private static void shareLoss() {
        C.promise(29, "of the ways with so many the least LOSS together (each LOSS as if alone).");
        C.due(Run.of("hall sw5h1f0;pd9;pc4d9;pc2d9b1;rv4;rb9v0"), "share(0, 1)", 10, "share(1, 1)", 2);
        C.due(Run.of("hall sw3h1f0;pd9;pc2d1;rb9;r"), "share(0, 0)", 2, "share(0, 1)", 3);
        C.due(Run.of("hall sw3h1f0;pc2d1;pd9;r;rb9"), "share(0, 1)", 3);
        C.due(Run.of("hall sw5h1f0;pd9;pc2d9;pc4d1;rb9v9"), "share(0, 0)", 1, "share(0, 1)", 1);
        C.due(Run.of("hall sw5h1f0;pc4d1;pd9;pc2d9;rb9v9"), "share(0, 0)", 1, "share(0, 1)", 1);
        C.due(Run.of("hall pd3;rb9;rb4"), "share(0, 1)", 3, "share(0, 0)", 1);
        C.due(Run.of("hall pd9;rb9;rb4;rb5"), "share(0, 1)", 3);
        C.due(Run.of("hall pd3;pd3;rb9;rb9"), "share(0, 0)", 2, "share(0, 1)", 12);
        C.due(Run.of("hall sw3h1;pd9;pc2d9;r;rc2", "law y:n*3+1"), "share(0, 1)", 2);
        C.due(Run.of("hall sw3h1;pd9;pc2d9;r;rv0", "law y:n*3+1"), "share(0, 1)", 5);
    }

    private static void shareRefused() {
        C.promise(29, "SHARE: how many PAGES (0), LOSS together (1).");
        Run x = Run.of("hall pd9;pd9;pb1;r;r");
        C.still(x, "share(0, 0)", 2, "share(0, 1)", 12, "share(1, 0)", 1, "share(1, 1)", 6, "share(4, 0)", 0, "share(4, 1)", 0);

        C.promise(29, "NONE: no such ones, no HALL.");
        C.still(x, "share(5, 0)", NONE, "share(-1, 0)", NONE, "share(2147483647, 0)", NONE, "share(-2147483648, 1)", NONE);
        C.still(x, "share(0, 2)", NONE, "share(0, -1)", NONE, "share(0, 2147483647)", NONE);
        C.still(Run.of(), "share(0, 0)", NONE, "share(0, 1)", NONE);
    }
}
