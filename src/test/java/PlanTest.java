/** Promises 22 to 24: plans told, tried and done. */
final class PlanTest {
    private static final Check C = new Check("PlanTest");
    private static final int NONE = SnowBooks.NONE;
    private static final int HIDDEN = SnowBooks.HIDDEN;

    public static void main(String[] args) {
        told();
        tried();
        whatCannotBe();
        C.end();
    }

    private static void told() {
        SnowBooks x = new SnowBooks();
        Check.text(x, 2, "r911;c0 0;g129;n");
        int[][] steps = {{0, 9, 11}, {1, 0, 0}, {2, 1, 29}, {3, NONE, NONE}};
        for (int i = 0; i < 4; i++) {
            for (int what = 0; what < 3; what++) {
                C.due("step(0, " + i + ", " + what + ")", x.step(0, i, what), steps[i][what]);
            }
        }
        C.due("step(0, 4, 0)", x.step(0, 4, 0), HIDDEN);
        C.due("step(0, -1, 0)", x.step(0, -1, 0), HIDDEN);
        C.due("step(0, 0, 3)", x.step(0, 0, 3), HIDDEN);
        C.due("step(0, 0, -1)", x.step(0, 0, -1), HIDDEN);
        C.due("step(1, 0, 0)", x.step(1, 0, 0), HIDDEN);
        C.due("step(-1, 0, 0)", x.step(-1, 0, 0), HIDDEN);
        C.due("run without a hall", x.run(0, 0), HIDDEN);
        C.due("perform without a hall", x.perform(0), NONE);
    }

    private static void tried() {
        SnowBooks x = Check.hall("sw3h1;pd3t1;pc1d1t2;rv2");
        // Page 1 melts away while page 0 is read: 2 from page 0, 1 from page 1.
        Check.text(x, 2, "r00;n;r01;n");
        Check.text(x, 2, "r00;n;g02;n;c00");
        Check.text(x, 2, "r00;g01");
        C.due("run(0, 0)", x.run(0, 0), 2);
        C.due("run(0, 1)", x.run(0, 1), 1);
        C.due("run(1, 0)", x.run(1, 0), NONE);
        C.due("run(1, 1)", x.run(1, 1), 1);
        C.due("run(2, 0)", x.run(2, 0), 1);
        C.due("run(3, 0)", x.run(3, 0), HIDDEN);
        C.due("run(-1, 0)", x.run(-1, 0), HIDDEN);
        C.due("run(0, 2)", x.run(0, 2), HIDDEN);
        C.due("run(0, -1)", x.run(0, -1), HIDDEN);
        C.due("nothing was done", x.count(10), 4);
        C.due("no acts", x.count(12), 0);
        C.due("perform(-1)", x.perform(-1), NONE);
        C.due("perform(3)", x.perform(3), NONE);
        C.due("perform(0)", x.perform(0), 2);
        C.due("the day", x.count(6), 1);
        C.due("acts", x.count(12), 2);
        C.due("the log's night", x.log(0, 0), 4);
        C.due("the log's read", x.log(1, 3), 3);
        C.due("undo the night", x.undo(), 1);
        C.due("undo the read", x.undo(), 0);
        C.due("perform(1)", x.perform(1), 5);
        C.due("recut", x.page(0, 1), 9);
        C.due("five acts", x.count(12), 5);
        C.due("perform what can't be at all", x.perform(2), 0);
        C.due("no act", x.count(12), 5);
    }

    private static void whatCannotBe() {
        SnowBooks x = Check.hall("sw3h1;pc2t1;rv1;r");
        Check.text(x, 2, "n;r50");
        Check.text(x, 2, "n;r05");
        Check.text(x, 2, "n;g00");
        Check.text(x, 2, "n;c00");
        for (int plan = 0; plan < 4; plan++) {
            C.due("run(" + plan + ", 0)", x.run(plan, 0), 1);
        }
        SnowBooks y = Check.hall("sw3h1;pc2t1;rv1;rc1v1");
        Check.text(y, 2, "r00");
        Check.text(y, 2, "g05");
        Check.text(y, 2, "g02");
        Check.text(y, 2, "r10;c10");
        int[] done = {0, 0, 0, 1};
        for (int plan = 0; plan < 4; plan++) {
            C.due("run(" + plan + ", 0) of y", y.run(plan, 0), done[plan]);
        }
        C.due("perform(3) of y", y.perform(3), 1);
    }
}
