/** The boundary cases of promises 34 to 39, each under the sentence that names it; single numbers are in RangesTest. */
public final class ImagesSheetsEdgesTest {
    private static final String ALL = "AN IMAGE keeps all but SHEETS, numbers that wait, THE TAPE; all can become as it is (again and again).";
    private static final Due due = new Due();

    public static void main(String[] args) {
        noImage();
        fromTheLastWeek();
        againAndAgain();
        keptOver();
        emptyImage();
        fullImage();
        eachThing();
        packedThings();
        whatItLeaves();
        sheetSizes();
        marks();
        copies();
        copiesWithinOne();
        copyRefused();
        counts();
        due.named(34, 39);
        due.end();
    }

    private static void noImage() {
        due.sentence(35, "NO: there is none.");
        DinnerBoxes x = Kitchens.of(1, 1, 1);
        due.is("back", x.back(), Due.NO);
        due.is("parts stay", x.count(0), 1);
        due.is("keep", x.keep(), 0);
        due.is("back then", x.back(), 0);
    }

    private static void fromTheLastWeek() {
        due.sentence(34, "AN IMAGE is kept: TODAY.");
        DinnerBoxes x = new DinnerBoxes();
        due.is("week 0", x.keep(), 0);
        for (int w = 0; w < 99; w++) x.end();
        due.sentence(35, "All is as THE IMAGE: TODAY.");
        due.is("back from week 99", x.back(), 0);
        due.is("today", x.count(6), 0);
        for (int w = 1; w <= 99; w++) due.is("week " + w + " again", x.end(), w);
        due.sentence(34, "AN IMAGE is kept: TODAY.");
        due.is("week 99", x.keep(), 99);
        due.is("the end of it", x.end(), Due.NO);
        due.is("back to week 99", x.back(), 99);
        due.is("the end of it again", x.end(), Due.NO);
    }

    private static void againAndAgain() {
        due.sentence(35, ALL);
        DinnerBoxes x = Kitchens.of(1, 1, 1);
        x.lot(0, 500);
        x.menu(1);
        x.keep();
        for (int i = 0; i < 9; i++) {
            due.is("pack " + i, x.pack(1), 100);
            due.is("another lot " + i, x.lot(0, 9), 1);
            due.is("got " + i, x.recall(0), 1);
            x.end();
            due.is("back " + i, x.back(), 0);
            due.is("stock " + i, x.stock(0, 0), 500);
            due.is("lots " + i, x.count(3), 1);
        }
        due.is("back twice in a row", x.back(), 0);
        due.is("stock", x.stock(0, 0), 500);
    }

    private static void keptOver() {
        due.sentence(34, "AN IMAGE is kept: TODAY.");
        DinnerBoxes x = new DinnerBoxes();
        x.heat(1);
        x.keep();
        x.heat(2);
        x.end();
        due.is("kept once more", x.keep(), 1);
        x.heat(3);
        due.is("back to the later one", x.back(), 1);
        due.is("its heat", x.heat(4), 2);
        due.is("keep", x.keep(), 1);
        due.is("back right behind it", x.back(), 1);
        due.is("its heat then", x.heat(5), 4);
    }

    private static void emptyImage() {
        due.sentence(35, ALL);
        DinnerBoxes x = new DinnerBoxes();
        x.keep();
        Kitchens.parts(x, 14);
        Kitchens.meals(x, 10);
        Kitchens.families(x, 12);
        for (int l = 0; l < 40; l++) x.lot(0, 9);
        x.back();
        for (int what = 0; what <= 8; what++) due.is("count " + what, x.count(what), 0);
        due.is("a part", x.part(0, 10000, 1), 0);
        due.is("a meal", x.meal(2, 0), 0);
        due.is("a family", x.family(0, 1), 0);
        due.is("a lot", x.lot(0, 5), 0);
        due.is("stock", x.stock(0, 0), 5);
    }

    private static void fullImage() {
        due.sentence(35, ALL);
        DinnerBoxes x = Kitchens.filled();
        x.likes(11, 9, 1);
        x.unlike(12, 13, 1);
        x.keep();
        x.likes(11, 9, 2);
        x.unlike(12, 13, 2);
        x.recall(39);
        due.is("back", x.back(), 99);
        int[] want = {14, 10, 12, 40, 0, 0, 99, 36, 120};
        for (int what = 0; what <= 8; what++) due.is("count " + what, x.count(what), want[what]);
        due.is("the last likes", x.likes(11, 9, 1), 1);
        due.is("the last unlike", x.unlike(13, 12, 1), 1);
        due.is("the last lot", x.told(39, 3), 500);
        due.is("full of parts", x.part(0, 100, 1), Due.FULL);
        due.is("full of lots", x.lot(0, 1), Due.FULL);
    }

    /** Each thing that is not 0 at first, or that a row keeps, is as it was, also if what it was is none. */
    private static void eachThing() {
        due.sentence(35, ALL);
        DinnerBoxes x = Kitchens.of(2, 2, 2);
        x.keep();
        x.unlike(0, 1, 9);
        x.likes(1, 1, 0);
        x.with(1, 0, 5);
        x.with(1, 1, 7);
        x.heat(60);
        Due.law(x, "mark 1 ice 9");
        x.menu(3);
        x.choose(0, 1);
        x.choose(1, -1);
        x.back();
        due.is("unlike", x.unlike(0, 1, 50), 50);
        due.is("likes", x.likes(1, 1, 5), 5);
        due.is("parts of a meal", x.about(1, 4), 1);
        due.is("grams", x.about(1, 5), 100);
        due.is("heat", x.heat(20), 20);
        due.is("no law", x.about(0, 6), 0);
        due.is("no menu", x.count(4), 0);
        due.is("no choice", x.choose(0, 0), 0);
        due.is("not skipped", x.choose(1, 0), 0);
        x.menu(3);
        x.choose(0, 1);
        x.choose(1, -1);
        Due.law(x, "mark 1 ice 9");
        x.keep();
        Due.law(x, "mark 0 ice 8*1+1-1");
        x.menu(1);
        x.back();
        due.is("the law: marked", x.about(0, 6), 1);
        due.is("the law: ice", x.ice(0), 9);
        due.is("the menu", x.count(4), 2);
        due.is("the choice", x.choose(0, 0), 1);
        due.is("skipped", x.choose(1, 0), -1);
    }

    private static void packedThings() {
        due.sentence(35, ALL);
        DinnerBoxes x = Kitchens.of(1, 1, 2);
        x.lot(0, 500);
        x.menu(1);
        x.choose(0, -1);
        x.pack(1);
        x.keep();
        x.end();
        x.menu(1);
        x.pack(1);
        x.end();
        due.is("back", x.back(), 0);
        due.is("packed", x.count(5), 1);
        due.is("the choice is closed", x.choose(1, 0), Due.NO);
        due.is("the box", x.box(1, 0), 1);
        due.is("a week to come", x.box(1, 1), Due.BAD);
        due.is("packed grams", x.stock(0, 3), 100);
        due.is("got of it", x.recall(0), 2);
        due.is("thrown", x.stock(0, 4), 400);
        x.back();
        due.is("not thrown", x.stock(0, 4), 0);
        x.end();
        due.is("the next week has no box yet", x.box(1, 1), 0);
        x.end();
        due.is("nor when it has ended", x.box(1, 1), 0);
    }

    private static void whatItLeaves() {
        due.sentence(35, "AN IMAGE keeps all but SHEETS, numbers that wait, THE TAPE");
        DinnerBoxes x = Kitchens.of(2, 1, 1);
        x.lot(1, 100);
        x.menu(1);
        x.sheet(0, 1);
        x.mark(0, 0, 3);
        x.keep();
        x.mark(0, 0, 4);
        x.sheet(1, 16);
        x.tell(0);
        x.tell(0);
        Due.write(x, "mark 1 ice 12");
        x.back();
        due.is("sheet 0", x.mark(0, 0, 4), 4);
        due.is("sheet 1", x.mark(1, 15, 0), 0);
        due.is("numbers", x.count(7), 2);
        due.is("bytes", x.count(8), 13);
        x.tell(1);
        due.is("the numbers that wait are as they were", x.check(), 0);
        due.is("the tape is as it was", x.law(), 2);
        due.is("ice", x.ice(0), 12);
        Due.write(x, "mark 1 ice 7");
        x.tell(5);
        x.keep();
        x.law();
        x.check();
        x.sheet(0, 0);
        x.back();
        due.is("no bytes come back", x.count(8), 0);
        due.is("no numbers come back", x.count(7), 0);
        due.is("no places come back", x.mark(0, 0, 0), Due.INDEX);
    }

    private static void sheetSizes() {
        due.sentence(36, "SHEETS 0, 1 are rows of shorts with 0 to 16 places (LIKES by MEALS), or MISSING (at first).");
        for (int s = 0; s < 2; s++) for (int n = 0; n <= 16; n++) {
            DinnerBoxes x = new DinnerBoxes();
            due.is("sheet " + s + " of " + n, x.sheet(s, n), n);
            if (n > 0) due.is("its last place", x.mark(s, n - 1, 1), 0);
            due.is("the place behind it", x.mark(s, n, 1), Due.INDEX);
            due.is("the other sheet", x.mark(1 - s, 0, 1), Due.NOTHING);
        }
        due.sentence(36, "A SHEET has n places, all 0: n.");
        DinnerBoxes x = new DinnerBoxes();
        x.sheet(0, 16);
        for (int p = 0; p < 16; p++) x.mark(0, p, -1);
        x.sheet(0, 16);
        for (int p = 0; p < 16; p++) due.is("place " + p, x.mark(0, p, 7), 0);
        x.sheet(0, 1);
        x.sheet(0, 16);
        for (int p = 0; p < 16; p++) due.is("place " + p + " again", x.mark(0, p, 7), 0);
        due.sentence(36, "SIZE: a number of places is below 0.");
        due.is("the first below 0", x.sheet(1, -1), Due.SIZE);
        due.is("the least of all", x.sheet(1, Integer.MIN_VALUE), Due.SIZE);
        due.is("still missing", x.mark(1, 0, 0), Due.NOTHING);
        due.is("0 is not below 0", x.sheet(1, 0), 0);
        due.sentence(36, "BAD: sheet, n above 16; SIZE.");
        due.is("no sheet, below 0", x.sheet(2, -1), Due.BAD);
        due.is("below 0", x.sheet(0, -1), Due.SIZE);
        due.is("above 16", x.sheet(0, 17), Due.BAD);
        due.is("places stay", x.mark(0, 15, 7), 7);
    }

    private static void marks() {
        due.sentence(37, "A place of a SHEET becomes v (as a short): what it was.");
        DinnerBoxes x = new DinnerBoxes();
        x.sheet(0, 1);
        int[][] rows = {{32767, 32767}, {32768, -32768}, {-32768, -32768}, {-32769, 32767}, {65535, -1}, {65536, 0}, {65537, 1}, {-1, -1},
            {Integer.MAX_VALUE, -1}, {Integer.MIN_VALUE, 0}, {1 << 16 | 9, 9}};
        for (int[] r : rows) {
            x.mark(0, 0, r[0]);
            due.is("as a short: " + r[0], x.mark(0, 0, 0), r[1]);
        }
        due.sentence(37, "BAD: sheet; NOTHING; INDEX.");
        due.is("no sheet, no place", x.mark(2, 99, 0), Due.BAD);
        due.is("missing, no place", x.mark(1, -1, 0), Due.NOTHING);
        due.is("no place", x.mark(0, 1, 0), Due.INDEX);
        x.sheet(0, 0);
        due.is("a sheet without places", x.mark(0, 0, 0), Due.INDEX);
    }

    private static DinnerBoxes sheets() {
        DinnerBoxes x = new DinnerBoxes();
        x.sheet(0, 16);
        x.sheet(1, 3);
        for (int p = 0; p < 16; p++) x.mark(0, p, 100 + p);
        return x;
    }

    private static void row(String what, DinnerBoxes x, int s, int from, int... want) {
        for (int i = 0; i < want.length; i++) due.is(what + ", place " + (from + i), x.mark(s, from + i, want[i]), want[i]);
    }

    private static void copies() {
        due.sentence(38, "So many places of a SHEET come to another one (or the same), as they were: many.");
        DinnerBoxes x = sheets();
        due.is("none", x.copy(0, 0, 1, 0, 0), 0);
        row("none came", x, 1, 0, 0, 0, 0);
        due.is("none at the ends", x.copy(0, 16, 1, 3, 0), 0);
        due.is("all of the lesser", x.copy(0, 13, 1, 0, 3), 3);
        row("the last three", x, 1, 0, 113, 114, 115);
        due.is("one to the last", x.copy(0, 0, 1, 2, 1), 1);
        row("one came", x, 1, 0, 113, 114, 100);
        due.sentence(38, "(From a SHEET, its place, to a SHEET, its place.)");
        due.is("back to the greater", x.copy(1, 0, 0, 13, 3), 3);
        row("the ends", x, 0, 12, 112, 113, 114, 100);
        x.sheet(1, 16);
        due.is("all 16", x.copy(0, 0, 1, 0, 16), 16);
        row("all came", x, 1, 14, 114, 100);
        row("all came", x, 1, 0, 100, 101);
        x.mark(1, 0, -32768);
        due.is("a short below 0", x.copy(1, 0, 0, 0, 1), 1);
        row("as it was", x, 0, 0, -32768, 101);
    }

    private static void copiesWithinOne() {
        due.sentence(38, "So many places of a SHEET come to another one (or the same), as they were: many.");
        DinnerBoxes x = sheets();
        due.is("one up", x.copy(0, 0, 0, 1, 15), 15);
        row("one up", x, 0, 0, 100, 100, 101, 102, 103, 104, 105, 106, 107, 108, 109, 110, 111, 112, 113, 114);
        DinnerBoxes y = sheets();
        due.is("one down", y.copy(0, 1, 0, 0, 15), 15);
        row("one down", y, 0, 0, 101, 102, 103, 104, 105, 106, 107, 108, 109, 110, 111, 112, 113, 114, 115, 115);
        due.is("upon itself", y.copy(0, 0, 0, 0, 16), 16);
        row("upon itself", y, 0, 0, 101, 102);
        due.is("the last from the first", y.copy(0, 0, 0, 15, 1), 1);
        row("the last", y, 0, 15, 101);
    }

    private static void copyRefused() {
        due.sentence(38, "BAD; NOTHING; INDEX.");
        DinnerBoxes x = new DinnerBoxes();
        x.sheet(0, 3);
        for (int p = 0; p < 3; p++) x.mark(0, p, p + 1);
        due.is("no sheet, a missing one", x.copy(2, 0, 1, 0, 1), Due.BAD);
        due.is("a missing one, no sheet", x.copy(1, 0, -1, 0, 1), Due.BAD);
        due.is("to a missing one, no place", x.copy(0, 9, 1, 9, 9), Due.NOTHING);
        due.is("from a missing one, no place", x.copy(1, 9, 0, 9, 9), Due.NOTHING);
        due.is("to a missing one, none", x.copy(0, 0, 1, 0, 0), Due.NOTHING);
        due.is("to a missing one, below 0", x.copy(0, 0, 1, 0, -1), Due.NOTHING);
        due.is("both missing", x.copy(1, 0, 1, 0, 0), Due.NOTHING);
        due.is("many below 0: SIZE does not stand with it", x.copy(0, 0, 0, 0, -1), Due.INDEX);
        due.sentence(38, "INDEX: there is no such place");
        x.sheet(1, 2);
        int[][] none = {{0, 1, 1, 0, 3}, {0, 0, 1, 0, 3}, {0, 0, 1, 1, 2}, {0, 2, 1, 0, 2}, {0, 3, 1, 0, 1}, {0, 0, 1, 2, 1}, {0, 4, 1, 0, 0}, {0, 0, 1, 3, 0},
            {0, -1, 1, 0, 0}, {0, 0, 1, -1, 0}, {0, -1, 1, 0, 1}, {0, 0, 1, -1, 1}, {0, -1, 1, 0, 2}, {0, 0, 1, 0, -1}, {0, 1, 1, 1, -1},
            {0, 1, 1, 0, Integer.MAX_VALUE}, {0, Integer.MAX_VALUE, 1, 0, 1}, {0, 0, 1, Integer.MAX_VALUE, 1}, {0, Integer.MAX_VALUE, 1, 0, Integer.MAX_VALUE},
            {0, 0, 1, 0, Integer.MIN_VALUE}, {0, Integer.MIN_VALUE, 1, 0, 1}, {0, 0, 1, Integer.MIN_VALUE, 1}, {0, Integer.MIN_VALUE, 1, 0, Integer.MIN_VALUE},
            {0, 1, 0, 0, 3}, {0, 0, 0, 1, 3}};
        for (int[] n : none) due.is("places " + n[1] + ", " + n[3] + ", many " + n[4], x.copy(n[0], n[1], n[2], n[3], n[4]), Due.INDEX);
        row("nothing came", x, 1, 0, 0, 0);
        row("nothing came", x, 0, 0, 1, 2, 3);
        x.sheet(1, 0);
        due.is("none to no places", x.copy(0, 0, 1, 0, 0), 0);
        due.is("one to no places", x.copy(0, 0, 1, 0, 1), Due.INDEX);
        due.is("none from no places", x.copy(1, 0, 0, 3, 0), 0);
        due.is("one from no places", x.copy(1, 0, 0, 0, 1), Due.INDEX);
    }

    private static void counts() {
        due.sentence(39, "How many: 0 PARTS, 1 MEALS, 2 FAMILIES, 3 LOTS, 4 MEALS in THE MENU, 5 whether TODAY is PACKED (1, 0), 6 TODAY, 7 numbers that wait, 8 bytes of THE TAPE.");
        DinnerBoxes x = new DinnerBoxes();
        for (int what = 0; what <= 8; what++) due.is("empty, " + what, x.count(what), 0);
        DinnerBoxes y = Kitchens.filled();
        y.menu(1023);
        int[] want = {14, 10, 12, 40, 10, 0, 99, 36, 120};
        for (int what = 0; what <= 8; what++) due.is("full, " + what, y.count(what), want[what]);
        DinnerBoxes z = new DinnerBoxes();
        z.pack(1);
        due.is("packed", z.count(5), 1);
        z.end();
        due.is("not packed", z.count(5), 0);
        due.is("today", z.count(6), 1);
        due.is("9", z.count(9), Due.BAD);
        due.is("-1", z.count(-1), Due.BAD);
    }
}
