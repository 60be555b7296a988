/** Promises 22 to 24, 28 and 29. */
public final class LotsTest {
    private static final Due due = new Due();

    public static void main(String[] args) {
        lots();
        stock();
        spoil();
        recall();
        end();
        due.end();
    }

    private static void lots() {
        DinnerBoxes x = new DinnerBoxes();
        due.is("lot of no part", x.lot(0, 1), Due.BAD);
        x.part(0, 100, 1);
        x.part(0, 100, 1);
        due.is("lot of 0", x.lot(0, 0), Due.BAD);
        due.is("lot of 100000", x.lot(0, 100000), Due.BAD);
        due.is("lot of part -1", x.lot(-1, 1), Due.BAD);
        due.is("lot least", x.lot(0, 1), 0);
        due.is("lot most", x.lot(1, 99999), 1);
        x.end();
        for (int l = 2; l < 40; l++) due.is("lot " + l, x.lot(1, l), l);
        due.is("lot 41st", x.lot(1, 1), Due.FULL);
        due.is("lot 41st bad", x.lot(2, 1), Due.BAD);
        due.is("stock of 39 lots", x.stock(1, 0), 99999 + 779);
        due.is("in of 39 lots", x.stock(1, 2), 99999 + 779);
        int[] first = {1, 99999, 0, 99999}, last = {1, 39, 1, 39};
        for (int what = 0; what < 4; what++) {
            due.is("told 1 " + what, x.told(1, what), first[what]);
            due.is("told 39 " + what, x.told(39, what), last[what]);
        }
        due.is("told 4", x.told(0, 4), Due.BAD);
        due.is("told -1", x.told(0, -1), Due.BAD);
        due.is("told no lot", x.told(40, 0), Due.BAD);
        due.is("told lot -1", x.told(-1, 0), Due.BAD);
    }

    private static void stock() {
        DinnerBoxes x = new DinnerBoxes();
        x.part(0, 100, 9);
        x.part(0, 111, 9);
        x.meal(0, 0);
        x.meal(0, 1);
        x.with(0, 0, 100);
        x.with(1, 0, 30);
        x.with(1, 1, 7);
        x.family(0, 2);
        x.family(0, 3);
        x.menu(3);
        x.choose(1, -1);
        x.lot(0, 100);
        x.lot(1, 50);
        x.lot(0, 170);
        int[][] before = {{270, 260, 270, 0, 0}, {50, 14, 50, 0, 0}}, after = {{10, 260, 270, 260, 0}, {36, 14, 50, 14, 0}};
        for (int p = 0; p < 2; p++) for (int w = 0; w < 5; w++) due.is("stock " + p + " " + w, x.stock(p, w), before[p][w]);
        due.is("pack", x.pack(5000), 274);
        for (int p = 0; p < 2; p++) for (int w = 0; w < 5; w++) due.is("stock packed " + p + " " + w, x.stock(p, w), after[p][w]);
        due.is("lots that came first", x.told(0, 3), 0);
        due.is("then the next", x.told(2, 3), 10);
        due.is("recall", x.recall(2), 1);
        due.is("thrown", x.stock(0, 4), 10);
        due.is("in", x.stock(0, 2), 270);
        due.is("stock 5", x.stock(0, 5), Due.BAD);
        due.is("stock -1", x.stock(0, -1), Due.BAD);
        due.is("stock no part", x.stock(2, 0), Due.BAD);
        due.is("stock part -1", x.stock(-1, 0), Due.BAD);
    }

    private static void spoil() {
        DinnerBoxes x = new DinnerBoxes();
        x.part(0, 100, 1);
        x.part(0, 100, 2);
        x.lot(0, 5);
        x.lot(1, 6);
        x.end();
        x.lot(0, 7);
        int[][] left = {{5, 6, 7}, {0, 6, 7}, {0, 0, 0}};
        for (int w = 0; w < 3; w++) {
            for (int l = 0; l < 3; l++) due.is("left " + w + " " + l, x.told(l, 3), left[w][l]);
            due.is("in " + w, x.stock(0, 2), 12);
            due.is("thrown " + w, x.stock(0, 4), 12 - left[w][0] - left[w][2]);
            due.is("stock " + w, x.stock(0, 0), left[w][0] + left[w][2]);
            x.end();
        }
        due.is("grams that came stay", x.told(0, 1), 5);
    }

    private static void recall() {
        DinnerBoxes x = new DinnerBoxes();
        x.part(0, 100, 9);
        x.meal(0, 0);
        x.with(0, 0, 100);
        for (int f = 0; f < 3; f++) x.family(0, 1);
        x.lot(0, 150);
        x.lot(0, 500);
        x.menu(1);
        due.is("recall of nobody's", x.recall(0), 0);
        due.is("called back", x.told(0, 3), 0);
        x.lot(0, 10);
        x.lot(0, 90);
        x.choose(0, -1);
        x.pack(5000);
        x.end();
        x.menu(1);
        x.choose(1, -1);
        x.choose(2, -1);
        x.pack(5000);
        due.is("recall over weeks", x.recall(1), 7);
        due.is("recall again", x.recall(1), 7);
        due.is("thrown once", x.stock(0, 4), 150 + 200);
        due.is("recall of the rest", x.recall(2), 0);
        due.is("all thrown", x.stock(0, 4), 150 + 200 + 10);
        due.is("recall no lot", x.recall(4), Due.BAD);
        due.is("recall lot -1", x.recall(-1), Due.BAD);
        DinnerBoxes y = new DinnerBoxes();
        y.part(0, 100, 9);
        y.meal(0, 0);
        y.with(0, 0, 100);
        for (int f = 0; f < 3; f++) y.family(0, 1);
        y.lot(0, 150);
        y.lot(0, 500);
        y.menu(1);
        y.pack(5000);
        due.is("a lot for two", y.recall(0), 3);
        due.is("the next for two", y.recall(1), 6);
        due.is("what is left is thrown", y.stock(0, 0), 0);
    }

    private static void end() {
        DinnerBoxes x = new DinnerBoxes();
        x.meal(0, 0);
        x.family(0, 1);
        for (int w = 1; w <= 99; w++) due.is("end " + w, x.end(), w);
        x.menu(1);
        x.choose(0, 1);
        due.is("end at 99", x.end(), Due.NO);
        due.is("today stays", x.count(6), 99);
        due.is("menu stays", x.count(4), 1);
        due.is("choice stays", x.choose(0, 0), 1);
        due.is("pack in the last week", x.pack(1), 0);
        due.is("packed", x.count(5), 1);
        due.is("box of the last week", x.box(0, 99), 1);
        due.is("end at 99, packed", x.end(), Due.NO);
        due.is("still packed", x.count(5), 1);
    }
}
