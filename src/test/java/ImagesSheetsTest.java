/** Promises 34 to 39. */
public final class ImagesSheetsTest {
    private static final Due due = new Due();

    public static void main(String[] args) {
        images();
        packedBehindTheImage();
        whatAnImageLeaves();
        sheets();
        marks();
        copies();
        counts();
        due.end();
    }

    private static DinnerBoxes kitchen() {
        DinnerBoxes x = new DinnerBoxes();
        x.part(1, 10000, 3);
        x.part(2, 20010, 2);
        x.meal(2, 1);
        x.meal(3, 2);
        x.with(0, 0, 100);
        x.with(1, 1, 50);
        x.family(0, 2003);
        x.family(1, 32);
        x.likes(0, 1, 7);
        x.unlike(0, 1, 9);
        x.lot(0, 5000);
        x.lot(1, 4000);
        Due.law(x, "mark a>0 ice g+m+h+r");
        x.menu(3);
        x.pack(5000);
        x.end();
        x.menu(3);
        x.choose(0, 1);
        return x;
    }

    private static void images() {
        DinnerBoxes x = kitchen();
        due.is("no image", x.back(), Due.NO);
        String before = Due.picture(x);
        due.is("keep", x.keep(), 1);
        for (int round = 0; round < 2; round++) {
            due.is("change: part", x.part(0, 100, 1), 2);
            x.unlike(0, 1, 88);
            x.meal(0, 0);
            x.with(2, 2, 9);
            x.family(0, 1);
            x.likes(0, 0, 1);
            Due.law(x, "mark 0 ice 1");
            x.heat(1);
            x.choose(1, -1);
            x.recall(0);
            x.lot(2, 9);
            x.menu(7);
            x.pack(5000);
            x.end();
            due.is("back", x.back(), 1);
            due.is("all is as it was", Due.picture(x).equals(before) ? 1 : 0, 1);
            due.is("unlike is back", x.unlike(0, 1, 9), 9);
            due.is("likes are back", x.likes(0, 0, 5), 5);
            due.is("heat is back", x.heat(20), 20);
            due.is("choice is back", x.choose(0, 1), 1);
            due.is("boxes are back", x.box(0, 0), 3);
            due.is("recall is as kept", x.recall(0), 1);
            x.back();
        }
        x.end();
        due.is("keep anew", x.keep(), 2);
        x.end();
        due.is("back to the new one", x.back(), 2);
        x.meal(0, 5);
        due.is("a meal that comes again has no parts", x.about(2, 4), 0);
        due.is("and likes as at first", x.likes(0, 2, 5), 5);
    }

    private static void packedBehindTheImage() {
        DinnerBoxes x = kitchen();
        String before = Due.picture(x);
        x.keep();
        due.is("got of lot 1 at the image", x.recall(1), 3);
        x.back();
        x.choose(1, -1);
        x.choose(0, 0);
        due.is("pack", x.pack(5000), 450);
        x.end();
        x.end();
        x.back();
        due.is("all is as it was", Due.picture(x).equals(before) ? 1 : 0, 1);
        due.is("not packed", x.count(5), 0);
        due.is("packed grams are back", x.stock(0, 3), 300);
        x.end();
        due.is("the week was not packed now", x.box(0, 1), 0);
        x.back();
        x.choose(0, -1);
        due.is("packed otherwise", x.pack(5000), 100);
        due.is("nobody got more of it", x.recall(0), 1);
        DinnerBoxes y = new DinnerBoxes();
        y.part(0, 10000, 9);
        y.meal(0, 0);
        y.with(0, 0, 100);
        y.family(0, 1);
        y.lot(0, 100);
        y.menu(1);
        y.keep();
        y.pack(5000);
        due.is("got of it", y.recall(0), 1);
        y.back();
        due.is("did not get of it", y.recall(0), 0);
        y.back();
        y.pack(5000);
        y.keep();
        y.back();
        due.is("packed is kept", y.count(5), 1);
        due.is("got is kept", y.recall(0), 1);
    }

    private static void whatAnImageLeaves() {
        DinnerBoxes x = kitchen();
        x.sheet(0, 2);
        x.tell(5);
        x.feed(0, 0, 0);
        x.keep();
        x.mark(0, 1, 4);
        x.sheet(1, 3);
        x.tell(6);
        x.feed(0, 0, 0);
        x.back();
        due.is("the sheet stays", x.mark(0, 1, 4), 4);
        due.is("the other sheet stays", x.mark(1, 2, 0), 0);
        due.is("numbers wait on", x.count(7), 2);
        due.is("the tape stays", x.count(8), 24);
        DinnerBoxes y = new DinnerBoxes();
        y.meal(0, 0);
        y.keep();
        Due.law(y, "mark 1 ice 1");
        y.back();
        due.is("an image without a law", y.about(0, 6), 0);
    }

    private static void sheets() {
        DinnerBoxes x = new DinnerBoxes();
        due.is("sheet 2", x.sheet(2, 1), Due.BAD);
        due.is("sheet -1", x.sheet(-1, 1), Due.BAD);
        due.is("sheet 2, below 0", x.sheet(2, -1), Due.BAD);
        due.is("sheet of 17", x.sheet(0, 17), Due.BAD);
        due.is("sheet of -1", x.sheet(0, -1), Due.SIZE);
        due.is("sheet of the least", x.sheet(0, Integer.MIN_VALUE), Due.SIZE);
        due.is("still missing", x.mark(0, 0, 0), Due.NOTHING);
        due.is("sheet of 16", x.sheet(0, 16), 16);
        due.is("mark the last", x.mark(0, 15, 7), 0);
        due.is("sheet refused", x.sheet(0, -1), Due.SIZE);
        due.is("the last stays", x.mark(0, 15, 7), 7);
        due.is("sheet anew", x.sheet(0, 16), 16);
        due.is("all are 0", x.mark(0, 15, 7), 0);
        due.is("sheet of 0", x.sheet(0, 0), 0);
        due.is("no place", x.mark(0, 0, 0), Due.INDEX);
        due.is("sheet 16 again", x.sheet(0, 16), 16);
        due.is("all are 0 again", x.mark(0, 15, 7), 0);
    }

    private static void marks() {
        DinnerBoxes x = new DinnerBoxes();
        x.sheet(1, 3);
        due.is("mark sheet 2", x.mark(2, 0, 0), Due.BAD);
        due.is("mark sheet -1", x.mark(-1, 9, 0), Due.BAD);
        due.is("mark missing", x.mark(0, 99, 0), Due.NOTHING);
        due.is("mark place 3", x.mark(1, 3, 0), Due.INDEX);
        due.is("mark place -1", x.mark(1, -1, 0), Due.INDEX);
        due.is("mark", x.mark(1, 2, 32768), 0);
        due.is("as a short", x.mark(1, 2, 65536 + 5), -32768);
        due.is("as a short again", x.mark(1, 2, -1), 5);
        due.is("below 0", x.mark(1, 2, Integer.MIN_VALUE), -1);
        due.is("the least", x.mark(1, 2, 0), 0);
    }

    private static void row(DinnerBoxes x, String name, int s, int... want) {
        for (int p = 0; p < want.length; p++) due.is(name + " place " + p, x.mark(s, p, want[p]), want[p]);
    }

    private static void copies() {
        DinnerBoxes x = new DinnerBoxes();
        x.sheet(0, 5);
        for (int p = 0; p < 5; p++) x.mark(0, p, p + 1);
        due.is("copy to missing", x.copy(0, 0, 1, 0, 1), Due.NOTHING);
        due.is("copy from missing", x.copy(1, 0, 0, 0, 1), Due.NOTHING);
        due.is("copy to missing, no place", x.copy(0, 9, 1, 0, 1), Due.NOTHING);
        due.is("copy to sheet 2", x.copy(0, 0, 2, 0, 1), Due.BAD);
        due.is("copy from sheet -1", x.copy(-1, 0, 1, 0, 1), Due.BAD);
        x.sheet(1, 3);
        due.is("copy", x.copy(0, 1, 1, 0, 3), 3);
        row(x, "copied", 1, 2, 3, 4);
        int[][] none = {{0, 3, 1, 0, 3}, {0, 0, 1, 1, 3}, {0, -1, 1, 0, 1}, {0, 0, 1, -1, 1}, {0, 6, 1, 0, 0}, {0, 0, 1, 4, 0},
            {0, 0, 1, 0, 4}, {0, 0, 1, 0, -1}, {0, 1, 1, 0, Integer.MAX_VALUE}, {0, Integer.MAX_VALUE, 1, 0, 1}, {0, 0, 1, 0, Integer.MIN_VALUE}};
        for (int[] n : none) due.is("copy no place " + n[1] + " " + n[3] + " " + n[4], x.copy(n[0], n[1], n[2], n[3], n[4]), Due.INDEX);
        row(x, "not copied", 1, 2, 3, 4);
        due.is("copy nothing at the ends", x.copy(0, 5, 1, 3, 0), 0);
        due.is("copy up within one", x.copy(0, 0, 0, 1, 4), 4);
        row(x, "as they were, up", 0, 1, 1, 2, 3, 4);
        due.is("copy down within one", x.copy(0, 1, 0, 0, 4), 4);
        row(x, "as they were, down", 0, 1, 2, 3, 4, 4);
    }

    private static void counts() {
        DinnerBoxes x = kitchen();
        x.tell(1);
        x.tell(2);
        x.feed(0, 0, 0);
        int[] want = {2, 2, 2, 2, 2, 0, 1, 2, 12};
        for (int what = 0; what < 9; what++) due.is("count " + what, x.count(what), want[what]);
        x.pack(5000);
        due.is("count packed", x.count(5), 1);
        due.is("count 9", x.count(9), Due.BAD);
        due.is("count -1", x.count(-1), Due.BAD);
    }
}
