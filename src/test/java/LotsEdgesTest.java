/** The boundary cases of promises 22 to 24, 28 and 29, each under the sentence that names it; single numbers are in RangesTest. */
public final class LotsEdgesTest {
    private static final Due due = new Due();

    public static void main(String[] args) {
        lotsAtMost();
        told();
        stockAtTheEnds();
        needs();
        inPackedThrown();
        recall();
        recallEver();
        spoil();
        spoilWhatIsLeft();
        spoilAtTheMost();
        weeks();
        lastWeek();
        due.named(22, 24);
        due.named(28, 29);
        due.end();
    }

    private static void lotsAtMost() {
        due.sentence(22, "LOTS, 40 at most, numbered from 0");
        DinnerBoxes x = Kitchens.of(2, 0, 0);
        for (int l = 0; l < 40; l++) due.is("lot " + l, x.lot(l % 2, 99999), l);
        due.is("the 41st", x.lot(0, 1), Due.FULL);
        due.is("the 41st again", x.lot(1, 99999), Due.FULL);
        due.is("lots", x.count(3), 40);
        for (int l = 0; l < 40; l++) x.recall(l);
        due.is("called back, they are still lots", x.lot(0, 1), Due.FULL);
        for (int w = 0; w < 12; w++) x.end();
        due.is("spoilt, they are still lots", x.lot(0, 1), Due.FULL);
        due.sentence(22, "BAD; FULL.");
        due.is("full, no part", x.lot(2, 1), Due.BAD);
        due.is("full, grams 0", x.lot(0, 0), Due.BAD);
        due.is("full, grams 100000", x.lot(0, 100000), Due.BAD);
    }

    private static void told() {
        DinnerBoxes x = Kitchens.of(14, 1, 1);
        due.sentence(23, "what 0 PART, 1 grams that came, 2 the WEEK, 3 grams that are left");
        x.lot(0, 1);
        x.lot(13, 99999);
        int[][] want = {{0, 1, 0, 1}, {13, 99999, 0, 99999}};
        for (int l = 0; l < 2; l++) for (int what = 0; what < 4; what++) due.is("lot " + l + ", what " + what, x.told(l, what), want[l][what]);
        x.lot(0, 99);
        x.menu(1);
        due.is("all is packed", x.pack(5000), 100);
        due.is("came", x.told(2, 1), 99);
        due.is("left", x.told(2, 3), 0);
        due.sentence(23, "(0: spoilt, called back)");
        x.recall(1);
        due.is("called back, left", x.told(1, 3), 0);
        due.is("called back, came", x.told(1, 1), 99999);
        due.is("called back, part", x.told(1, 0), 13);
        due.is("called back, week", x.told(1, 2), 0);
        x.lot(5, 7);
        for (int w = 0; w < 9; w++) x.end();
        due.is("keeps 9, in week 9", x.told(3, 3), 7);
        x.end();
        due.is("spoilt, left", x.told(3, 3), 0);
        due.is("spoilt, came", x.told(3, 1), 7);
        for (int w = 10; w < 99; w++) x.end();
        due.sentence(23, "in the WEEK in which it came");
        x.lot(5, 7);
        due.is("the last week", x.told(4, 2), 99);
    }

    private static void stockAtTheEnds() {
        DinnerBoxes x = Kitchens.of(14, 0, 0);
        due.sentence(24, "STOCK of a PART: what LOTS that are not spoilt have left.");
        for (int what = 0; what < 5; what++) due.is("no lots, what " + what, x.stock(13, what), 0);
        for (int l = 0; l < 40; l++) x.lot(13, 99999);
        due.is("forty lots, stock", x.stock(13, 0), 3999960);
        due.is("forty lots, in", x.stock(13, 2), 3999960);
        due.is("of another part", x.stock(12, 0), 0);
        for (int w = 0; w < 9; w++) x.end();
        due.is("in week 9", x.stock(13, 0), 3999960);
        x.end();
        due.is("in week 10", x.stock(13, 0), 0);
        due.is("all thrown", x.stock(13, 4), 3999960);
        due.is("all in", x.stock(13, 2), 3999960);
    }

    private static void needs() {
        DinnerBoxes x = new DinnerBoxes();
        Kitchens.parts(x, 2);
        Kitchens.meals(x, 3);
        for (int m = 0; m < 3; m++) x.with(m, 0, 999);
        for (int f = 0; f < 12; f++) x.family(0, 6);
        due.sentence(24, "NEEDS of a FAMILY: of each MEAL in its BOX of TODAY each PART's grams times PORTIONS.");
        due.is("no menu", x.stock(0, 1), 0);
        x.menu(7);
        due.is("the most", x.stock(0, 1), 12 * 6 * 2 * 999);
        due.is("of a part that nobody needs", x.stock(1, 1), 0);
        x.choose(11, -1);
        due.is("one skipped", x.stock(0, 1), 11 * 6 * 2 * 999);
        x.menu(4);
        due.is("one meal", x.stock(0, 1), 12 * 6 * 999);
        for (int l = 0; l < 2; l++) x.lot(0, 72000);
        due.is("packed", x.pack(5000), 12 * 6 * 999);
        due.is("needs of today, packed", x.stock(0, 1), 12 * 6 * 999);
        x.end();
        due.is("a new week", x.stock(0, 1), 0);
    }

    private static void inPackedThrown() {
        DinnerBoxes x = Kitchens.of(1, 1, 1);
        due.sentence(24, "IN is PACKED, THROWN and STOCK together.");
        x.lot(0, 50);
        x.lot(0, 70);
        x.lot(0, 1);
        x.menu(1);
        x.pack(1);
        x.recall(2);
        int[] packed = {20, 100, 121, 100, 1}, ended = {0, 0, 121, 100, 21};
        for (int what = 0; what < 5; what++) due.is("packed and called back, what " + what, x.stock(0, what), packed[what]);
        due.sentence(24, "IN, PACKED, THROWN are grams of a PART ever");
        for (int w = 0; w < 10; w++) x.end();
        for (int what = 0; what < 5; what++) due.is("and spoilt, what " + what, x.stock(0, what), ended[what]);
    }

    private static void recall() {
        DinnerBoxes x = Kitchens.of(2, 1, 12);
        due.sentence(28, "CALLED BACK may be a LOT: FAMILIES that got of it (bits); what is left of it is thrown.");
        x.lot(0, 1199);
        x.lot(0, 2);
        x.lot(0, 5);
        x.lot(1, 5);
        x.menu(1);
        x.pack(5000);
        due.is("all but a gram for the last", x.recall(0), 4095);
        due.is("the last gram", x.recall(1), 2048);
        due.is("one gram of it was left", x.stock(0, 4), 1);
        due.is("nobody's", x.recall(2), 0);
        due.is("another part's", x.recall(3), 0);
        due.is("thrown of part 0", x.stock(0, 4), 6);
        due.is("thrown of part 1", x.stock(1, 4), 5);
        due.is("packed stays", x.stock(0, 3), 1200);
        due.is("again", x.recall(0), 4095);
        due.is("again, nobody's", x.recall(2), 0);
        due.is("thrown once", x.stock(0, 4), 6);
    }

    private static void recallEver() {
        DinnerBoxes x = Kitchens.of(1, 1, 3);
        due.sentence(28, "A LOT is CALLED BACK: FAMILIES that got of it, ever.");
        x.lot(0, 250);
        for (int f = 0; f < 2; f++) {
            x.menu(1);
            for (int other = 0; other < 3; other++) if (other != f) x.choose(other, -1);
            due.is("pack for family " + f, x.pack(1), 100);
            x.end();
        }
        due.is("over two weeks", x.recall(0), 3);
        for (int w = 2; w < 12; w++) x.end();
        due.is("spoilt", x.recall(0), 3);
        due.is("thrown by the first recall", x.stock(0, 4), 50);
        x.lot(0, 99);
        x.recall(1);
        x.lot(0, 100);
        x.menu(1);
        x.choose(1, -1);
        x.choose(2, -1);
        x.pack(1);
        due.is("packed behind the recall: not of that lot", x.recall(1), 0);
        due.is("but of the next", x.recall(2), 1);
    }

    private static void spoil() {
        due.sentence(29, "it SPOILS at the end of the WEEK that is KEEPS behind that");
        for (int keeps : new int[] {1, 2, 19, 20}) for (int came : new int[] {0, 3}) {
            DinnerBoxes x = new DinnerBoxes();
            x.part(0, 100, keeps);
            for (int w = 0; w < came; w++) x.end();
            x.lot(0, 5);
            for (int w = 0; w < keeps; w++) x.end();
            due.is("came " + came + ", keeps " + keeps + ", its last week", x.told(0, 3), 5);
            due.is("stock", x.stock(0, 0), 5);
            x.end();
            due.is("came " + came + ", keeps " + keeps + ", behind it", x.told(0, 3), 0);
            due.is("stock", x.stock(0, 0), 0);
            due.is("thrown", x.stock(0, 4), 5);
            x.end();
            due.is("thrown once", x.stock(0, 4), 5);
        }
    }

    private static void spoilWhatIsLeft() {
        due.sentence(29, "A WEEK ends: LOTS that SPOIL are thrown");
        DinnerBoxes x = new DinnerBoxes();
        x.part(0, 100, 1);
        x.part(0, 100, 2);
        Kitchens.meals(x, 1);
        x.with(0, 0, 100);
        Kitchens.families(x, 1);
        x.lot(0, 150);
        x.lot(1, 150);
        x.end();
        x.lot(0, 10);
        x.menu(1);
        due.is("packed in its last week", x.pack(1), 100);
        x.end();
        due.is("what was left", x.stock(0, 4), 50);
        due.is("another lot of the part", x.told(2, 3), 10);
        due.is("a lot of another part", x.told(1, 3), 150);
        x.menu(1);
        due.is("what is spoilt is not packed", x.pack(5000), 100);
        due.is("a swap instead", x.stock(1, 3), 100);
    }

    private static void spoilAtTheMost() {
        due.sentence(29, "A WEEK ends: LOTS that SPOIL are thrown");
        DinnerBoxes x = new DinnerBoxes();
        for (int p = 0; p < 14; p++) x.part(0, 100, 1);
        for (int l = 0; l < 40; l++) x.lot(l % 14, 99999);
        x.end();
        x.end();
        for (int l = 0; l < 40; l++) due.is("lot " + l, x.told(l, 3), 0);
        for (int p = 0; p < 14; p++) due.is("thrown of part " + p, x.stock(p, 4), (p < 12 ? 3 : 2) * 99999);
    }

    private static void weeks() {
        due.sentence(29, "WEEKS 0 .. 99; TODAY is WEEK 0 at first.");
        DinnerBoxes x = Kitchens.of(0, 1, 1);
        for (int w = 1; w <= 99; w++) due.is("the end of week " + (w - 1), x.end(), w);
        due.is("the end of week 99", x.end(), Due.NO);
        due.sentence(29, "TODAY's WEEK ends: TODAY. NO: it is 99.");
        due.is("today", x.count(6), 99);
        due.is("again", x.end(), Due.NO);
        due.sentence(29, "if it was not PACKED, its BOXES are none (not even FILLED)");
        DinnerBoxes y = Kitchens.of(0, 3, 2);
        y.menu(7);
        y.choose(0, 1);
        due.is("filled", y.box(0, 0), 3);
        y.end();
        due.is("chosen, not packed", y.box(0, 0), 0);
        due.is("filled, not packed", y.box(1, 0), 0);
        y.menu(7);
        y.pack(1);
        due.is("packed", y.count(5), 1);
        y.end();
        due.is("not packed in a new week", y.count(5), 0);
        due.is("a box that was packed", y.box(0, 1), 3);
    }

    private static void lastWeek() {
        due.sentence(29, "NO: it is 99.");
        DinnerBoxes x = Kitchens.of(1, 1, 1);
        for (int w = 0; w < 90; w++) x.end();
        x.lot(0, 250);
        for (int w = 90; w < 99; w++) x.end();
        x.menu(1);
        x.choose(0, 1);
        due.is("the end", x.end(), Due.NO);
        due.is("what would spoil does not", x.stock(0, 0), 250);
        due.is("the menu stays", x.count(4), 1);
        due.is("the choice stays", x.choose(0, 1), 1);
        due.is("pack", x.pack(1), 100);
        due.is("the end, packed", x.end(), Due.NO);
        due.is("still packed", x.count(5), 1);
        due.is("the box stays", x.box(0, 99), 1);
    }
}
