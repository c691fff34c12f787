/** Promises 43 to 45: images and counts. */
final class ImageTest {
    private static final Check C = new Check("ImageTest");
    private static final int NONE = SnowBooks.NONE;

    public static void main(String[] args) {
        bounds();
        kept();
        longLog();
        notKept();
        counts();
        C.end();
    }

    private static void bounds() {
        SnowBooks x = new SnowBooks();
        C.due("image without a hall", x.image(), NONE);
        C.due("back without a hall", x.back(), NONE);
        x = Check.hall("p;r");
        C.due("back without an image", x.back(), NONE);
        x.night();
        C.due("image", x.image(), 1);
        Check.text(x, 0, "p;p;r");
        C.due("an image of another hall", x.back(), NONE);
        C.due("two pages", x.count(0), 2);
    }

    private static void kept() {
        SnowBooks x = Check.hall("sw3h1;pt1;pc1t2;r;rc1");
        x.read(0, 0);
        x.night();
        x.go(0, 1);
        C.due("image", x.image(), 1);
        C.due("an image takes no acts", x.count(12), 3);
        x.tell(0, 1);
        x.night();
        x.hare(0);
        x.recut(0, 0);
        C.due("back", x.back(), 1);
        C.due("day", x.count(6), 1);
        C.due("cold", x.hall(2), 39);
        C.due("depth", x.page(0, 1), 3);
        C.due("cell", x.reader(0, 0), 1);
        C.due("deed", x.reader(0, 4), 1);
        C.due("the other's deed", x.reader(1, 4), 0);
        C.due("memory", x.memory(0, 0), 1);
        C.due("the other's memory", x.memory(1, 0), NONE);
        C.due("log", x.count(11), 3);
        C.due("log(0, 0)", x.log(0, 0), 2);
        C.due("log(2, 0)", x.log(2, 0), 0);
        C.due("no act can be undone", x.count(12), 0);
        C.due("undo", x.undo(), NONE);
        x.night();
        C.due("an act behind it", x.count(12), 1);
        C.due("back again", x.back(), 1);
        x.night();
        C.due("another image", x.image(), 2);
        x.night();
        C.due("back to the other", x.back(), 2);
    }

    /** So many acts behind the image that each row of the log has been written over. */
    private static void longLog() {
        SnowBooks x = Check.hall("sw6h5;pd9;r");
        for (int i = 0; i < 70; i++) {
            x.hare(i % 29 + 1);
        }
        x.image();
        for (int i = 0; i < 120; i++) {
            x.night();
        }
        C.due("back", x.back(), 0);
        C.due("log", x.count(11), 60);
        for (int i = 0; i < 60; i++) {
            C.due("log(" + i + ", 0) of the image", x.log(i, 0), 5);
            C.due("log(" + i + ", 2) of the image", x.log(i, 2), (69 - i) % 29 + 1);
        }
        C.due("log(60, 0)", x.log(60, 0), SnowBooks.HIDDEN);
        for (int i = 0; i < 50; i++) {
            x.night();
        }
        for (int i = 0; i < 40; i++) {
            x.undo();
        }
        C.due("log behind 10 acts more", x.count(11), 60);
        C.due("its tenth", x.log(9, 0), 4);
        C.due("its eleventh", x.log(10, 2), 69 % 29 + 1);
        C.due("its last", x.log(59, 2), 20 % 29 + 1);
    }

    private static void notKept() {
        SnowBooks x = Check.hall("p;r");
        x.image();
        x.slips(9);
        Check.law(x, "y:1");
        Check.text(x, 2, "n");
        Check.feed(x, "abc");
        x.back();
        C.due("slips", x.count(8), 9);
        C.due("laws", x.count(2), 1);
        C.due("which holds", x.count(5), 0);
        C.due("plans", x.count(3), 1);
        C.due("the tape", x.count(4), 3);
    }

    private static void counts() {
        SnowBooks x = Check.hall("sw3h2;pd1;pd5;r;r;r");
        Check.law(x, "y:2");
        Check.text(x, 2, "n");
        Check.text(x, 2, "n");
        Check.feed(x, "abcd");
        x.slips(12);
        x.read(1, 1);
        x.night();
        x.night();
        int[] counts = {2, 3, 1, 2, 4, 0, 2, 6, 12, 1, 3, 3, 3, SnowBooks.HIDDEN};
        for (int i = 0; i < counts.length; i++) {
            C.due("count(" + i + ")", x.count(i), counts[i]);
        }
        C.due("count(-1)", x.count(-1), SnowBooks.HIDDEN);
        x.undo();
        C.due("log behind undo", x.count(11), 2);
        C.due("acts behind undo", x.count(12), 2);
    }
}
