/** The boundary cases of promises 25 to 27, 32 and 33, each under the sentence that names it; single numbers are in RangesTest. */
public final class PlanEdgesTest {
    private static final Due due = new Due();

    public static void main(String[] args) {
        nobody();
        stock();
        stockOfWhatComes();
        sort();
        neededOtherwise();
        barred();
        allOfIt();
        oneSwap();
        chain();
        sorry();
        leastSorry();
        fewestSwaps();
        first();
        tries();
        mostSwaps();
        swapNumbers();
        swapNone();
        packRefused();
        packNothing();
        packMost();
        packFromLots();
        packedBoxes();
        tell();
        check();
        checkMost();
        checkTries();
        checkRefused();
        due.named(25, 27);
        due.named(32, 33);
        due.end();
    }

    /** Parts of one sort, 100 grams of part 0 in meal 0 (the menu), so many families of one portion. */
    private static DinnerBoxes kitchen(int parts, int families) {
        DinnerBoxes x = Kitchens.of(parts, 1, families);
        x.menu(1);
        return x;
    }

    /** So many parts of one sort, so many grams of part 0 in meal 0 (the menu), families of so many portions. */
    private static DinnerBoxes portions(int parts, int grams, int... portions) {
        DinnerBoxes x = new DinnerBoxes();
        Kitchens.parts(x, parts);
        Kitchens.meals(x, 1);
        x.with(0, 0, grams);
        for (int p : portions) x.family(0, p);
        x.menu(1);
        return x;
    }

    private static void nobody() {
        due.sentence(25, "A PLAN: for each FAMILY with a BOX that is not empty nothing or one SWAP");
        due.is("a new object", new DinnerBoxes().plan(1), 0);
        DinnerBoxes x = kitchen(2, 0);
        due.is("no families", x.plan(1), 0);
        x.family(0, 1);
        due.is("one, and no stock", x.plan(5000), Due.NO);
        x.choose(0, -1);
        due.is("its box is empty", x.plan(1), 0);
        x.menu(0);
        due.is("no menu", x.plan(1), 0);
    }

    private static void stock() {
        due.sentence(25, "SHORT is a PART, if all NEEDS of it are more than STOCK.");
        DinnerBoxes x = kitchen(1, 2);
        x.lot(0, 199);
        due.is("a gram less", x.plan(5000), Due.NO);
        x.lot(0, 1);
        due.is("just as much", x.plan(5000), 0);
        x.lot(0, 1);
        due.is("a gram more", x.plan(5000), 0);
        x.recall(0);
        due.is("called back", x.plan(5000), Due.NO);
    }

    private static void stockOfWhatComes() {
        due.sentence(25, "so that no PART is needed more than STOCK");
        DinnerBoxes x = kitchen(2, 1);
        x.lot(1, 99);
        due.is("a gram less of what comes", x.plan(5000), Due.NO);
        x.lot(1, 1);
        due.is("just as much of what comes", x.plan(5000), 50);
        DinnerBoxes y = kitchen(2, 3);
        y.lot(0, 100);
        y.lot(1, 199);
        due.is("two swaps, a gram less of what comes", y.plan(5000), Due.NO);
        y.lot(1, 1);
        due.is("two swaps, just as much", y.plan(5000), 100);
    }

    private static void sort() {
        due.sentence(25, "of the same SORT");
        for (int goes = 0; goes <= 5; goes++) for (int comes = 0; comes <= 5; comes++) {
            DinnerBoxes x = new DinnerBoxes();
            x.part(0, 10000 + goes, 9);
            x.part(0, 10030 + comes, 9);
            Kitchens.meals(x, 1);
            x.with(0, 0, 100);
            Kitchens.families(x, 1);
            x.menu(1);
            x.lot(1, 100);
            due.is("sort " + comes + " for " + goes, x.plan(5000), goes == comes ? 50 : Due.NO);
        }
    }

    private static void neededOtherwise() {
        due.sentence(25, "that it does not need otherwise");
        DinnerBoxes x = new DinnerBoxes();
        Kitchens.parts(x, 2);
        Kitchens.meals(x, 2);
        x.with(0, 0, 100);
        x.with(1, 1, 1);
        Kitchens.families(x, 1);
        x.menu(3);
        x.lot(1, 99999);
        due.is("a gram of it in the other meal", x.plan(5000), Due.NO);
        x.menu(1);
        due.is("without the other meal", x.plan(5000), 50);
    }

    private static void barred() {
        due.sentence(25, "without ALLERGENS that are BARRED");
        for (int bit = 0; bit < 8; bit++) {
            DinnerBoxes x = new DinnerBoxes();
            x.part(0, 10000, 9);
            x.part(1 << bit, 10000, 9);
            Kitchens.meals(x, 1);
            x.with(0, 0, 100);
            x.family(1 << bit, 1);
            x.family(255 - (1 << bit), 1);
            x.menu(1);
            x.lot(0, 100);
            x.lot(1, 200);
            due.is("bit " + bit, x.swap(5000, 0), Due.NONE);
            due.is("other bits than " + bit, x.swap(5000, 1), 1);
            x.choose(1, -1);
            x.recall(0);
            due.is("bit " + bit + " alone", x.plan(5000), Due.NO);
        }
    }

    private static void allOfIt() {
        due.sentence(25, "one PART that it needs (all of it, in whichever MEALS) is another one instead");
        DinnerBoxes x = new DinnerBoxes();
        Kitchens.parts(x, 2);
        Kitchens.meals(x, 2);
        x.with(0, 0, 60);
        x.with(1, 0, 40);
        x.family(0, 2);
        x.menu(3);
        x.lot(0, 199);
        x.lot(1, 199);
        due.is("not some of it", x.plan(5000), Due.NO);
        x.lot(1, 1);
        due.is("all of it", x.plan(5000), 100);
        due.is("packed", x.pack(5000), 200);
        due.is("none of part 0", x.stock(0, 3), 0);
    }

    private static void oneSwap() {
        due.sentence(25, "A PLAN: for each FAMILY with a BOX that is not empty nothing or one SWAP");
        DinnerBoxes x = new DinnerBoxes();
        Kitchens.parts(x, 4);
        Kitchens.meals(x, 1);
        x.with(0, 0, 10);
        x.with(0, 1, 10);
        Kitchens.families(x, 1);
        x.menu(1);
        x.lot(2, 99);
        x.lot(3, 99);
        due.is("two would be needed", x.plan(5000), Due.NO);
        x.lot(1, 10);
        due.is("one is needed", x.plan(5000), 5);
    }

    /** The first family needs part 0 alone, the second one part 1 too. */
    private static void chain() {
        due.sentence(25, "so that no PART is needed more than STOCK");
        DinnerBoxes x = new DinnerBoxes();
        Kitchens.parts(x, 3);
        x.part(1, 10000, 9);
        Kitchens.meals(x, 2);
        x.with(0, 0, 100);
        x.with(1, 1, 100);
        x.with(1, 3, 1);
        x.family(1, 1);
        x.family(0, 1);
        x.menu(3);
        due.is("the first one's box", x.box(0, 0), 1);
        due.is("the second one's box", x.box(1, 0), 3);
        x.unlike(0, 1, 1);
        x.unlike(1, 2, 1);
        x.unlike(0, 2, 99);
        for (int p : new int[] {0, 1}) x.lot(p, 100);
        x.lot(3, 1);
        due.is("what may come is needed by the other", x.plan(5000), Due.NO);
        x.lot(1, 99);
        due.is("a gram less than both need", x.plan(5000), Due.NO);
        x.lot(1, 1);
        due.is("just what both need", x.plan(5000), 1);
        x.recall(3);
        due.sentence(25, "THE PLAN: that with the least SORRY together");
        x.lot(2, 100);
        due.is("a part that is not short goes, so that another comes", x.plan(5000), 2);
        due.is("the first", x.swap(5000, 0), 1);
        due.is("the second", x.swap(5000, 1), 102);
    }

    private static void sorry() {
        due.sentence(25, "It is SORRY: grams times UNLIKE of both / 100, cut (UNLIKE of two PARTS 1 .. 99, both ways alike; 50 at first)");
        int[][] rows = {{1, 1, 99, 0}, {2, 1, 50, 1}, {2, 1, 49, 0}, {100, 1, 1, 1}, {99, 1, 1, 0}, {999, 6, 99, 5934}, {999, 1, 1, 9}, {33, 3, 99, 98}, {3, 6, 50, 9}};
        for (int[] r : rows) {
            DinnerBoxes x = portions(2, r[0], r[1]);
            x.unlike(1, 0, r[2]);
            x.lot(1, 99999);
            due.is(r[0] + " grams, portions " + r[1] + ", unlike " + r[2], x.plan(5000), r[3]);
        }
        DinnerBoxes x = new DinnerBoxes();
        Kitchens.parts(x, 2);
        Kitchens.meals(x, 2);
        x.with(0, 0, 999);
        x.with(1, 0, 999);
        for (int f = 0; f < 12; f++) x.family(0, 6);
        x.menu(3);
        x.unlike(0, 1, 99);
        x.lot(1, 99999);
        x.lot(1, 99999);
        due.is("the most: each is cut", x.plan(5000), 12 * 11868);
    }

    private static void leastSorry() {
        due.sentence(25, "THE PLAN: that with the least SORRY together");
        DinnerBoxes x = kitchen(3, 1);
        x.lot(1, 100);
        x.lot(2, 100);
        x.unlike(0, 1, 51);
        due.is("one less, the later part", x.plan(5000), 50);
        due.is("its swap", x.swap(5000, 0), 2);
        x.unlike(0, 2, 51);
        due.is("as much, the first part", x.swap(5000, 0), 1);
        x.unlike(0, 2, 52);
        due.is("one more, the first part", x.swap(5000, 0), 1);
    }

    private static void fewestSwaps() {
        due.sentence(25, "of several that with the fewest SWAPS");
        DinnerBoxes x = portions(2, 1, 1, 1, 2);
        x.unlike(0, 1, 1);
        x.lot(0, 2);
        x.lot(1, 9);
        due.is("all are sorry 0", x.plan(5000), 0);
        int[] want = {Due.NONE, Due.NONE, 1};
        for (int f = 0; f < 3; f++) due.is("one swap: family " + f, x.swap(5000, f), want[f]);
        DinnerBoxes y = portions(2, 1, 2, 1, 1);
        y.unlike(0, 1, 1);
        y.lot(0, 2);
        y.lot(1, 9);
        int[] later = {1, Due.NONE, Due.NONE};
        for (int f = 0; f < 3; f++) due.is("one swap, though two stand ahead: family " + f, y.swap(5000, f), later[f]);
    }

    private static void first() {
        due.sentence(25, "of several the first (by FAMILIES: none ahead of all, then by PART that goes, then by PART that comes)");
        DinnerBoxes x = kitchen(3, 12);
        x.lot(0, 1100);
        x.lot(2, 100);
        x.lot(1, 100);
        due.is("none for the first", x.swap(5000, 0), Due.NONE);
        due.is("the last", x.swap(5000, 11), 1);
        DinnerBoxes y = new DinnerBoxes();
        Kitchens.parts(y, 5);
        Kitchens.meals(y, 1);
        y.with(0, 1, 100);
        y.with(0, 2, 100);
        Kitchens.families(y, 2);
        y.menu(1);
        for (int p : new int[] {1, 2, 4, 3}) y.lot(p, 100);
        due.is("the lesser goes, the lesser comes", y.swap(5000, 0), 103);
        due.is("what is left", y.swap(5000, 1), 204);
    }

    private static void tries() {
        due.sentence(25, "a SWAP that may be is put (a TRY; nothing is none)");
        DinnerBoxes x = kitchen(3, 1);
        x.lot(0, 100);
        due.is("two swaps", x.plan(2), 0);
        due.is("two swaps, spent", x.plan(1), Due.SPENT);
        DinnerBoxes none = kitchen(1, 12);
        none.lot(0, 1200);
        due.is("no swaps, no tries", none.plan(1), 0);
        due.sentence(25, "a row that is SORRY more than THE PLAN so far, or as much with as many SWAPS or more, goes no further");
        DinnerBoxes y = kitchen(2, 3);
        y.lot(0, 300);
        due.is("all stay: each swap is put once", y.plan(3), 0);
        due.is("all stay, spent", y.plan(2), Due.SPENT);
        y.recall(0);
        y.lot(0, 200);
        y.lot(1, 300);
        // Family 2 is THE PLAN; then 1 and 0 as much with as many swaps.
        due.is("one swaps", y.plan(3), 50);
        due.is("one swaps, spent", y.plan(2), Due.SPENT);
        y.recall(1);
        y.lot(0, 100);
        // Family 2; 1, and 2 behind it: THE PLAN; 0, and 2, 1 behind it as much with as many swaps.
        due.is("two swap", y.plan(6), 100);
        due.is("two swap, spent", y.plan(5), Due.SPENT);
        y.recall(3);
        due.is("all swap", y.plan(7), 150);
        due.is("all swap, spent", y.plan(6), Due.SPENT);
        due.sentence(25, "SPENT; NO: there is none.");
        y.recall(2);
        due.is("there is none", y.plan(7), Due.NO);
        due.is("there is none, spent", y.plan(6), Due.SPENT);
        due.is("there is none, tries bad", y.plan(0), Due.BAD);
    }

    /** Each of 12 families needs 7 of 14 parts, and each of the 7 others may come for each of them. */
    private static void mostSwaps() {
        due.sentence(25, "It is sought by FAMILIES, each in this order");
        DinnerBoxes x = new DinnerBoxes();
        Kitchens.parts(x, 14);
        Kitchens.meals(x, 2);
        for (int p = 0; p < 7; p++) x.with(p / 5, p, 1);
        Kitchens.families(x, 12);
        x.menu(3);
        for (int p = 0; p < 6; p++) x.lot(p, 99999);
        x.lot(6, 12);
        due.is("each swap is put once", x.plan(12 * 49), 0);
        due.is("each swap is put once, spent", x.plan(12 * 49 - 1), Due.SPENT);
        x.recall(6);
        x.lot(6, 11);
        x.lot(13, 1);
        due.is("the last swap of the last family", x.swap(5000, 11), 613);
        due.is("is sorry 0", x.plan(5000), 0);
    }

    private static void swapNumbers() {
        due.sentence(26, "100 * the PART that goes and the PART that comes (NONE: none)");
        for (int goes : new int[] {0, 1, 12, 13}) for (int comes : new int[] {0, 1, 12, 13}) {
            if (goes == comes) continue;
            DinnerBoxes x = new DinnerBoxes();
            Kitchens.parts(x, 14);
            Kitchens.meals(x, 1);
            x.with(0, goes, 100);
            Kitchens.families(x, 1);
            x.menu(1);
            x.lot(comes, 100);
            due.is("part " + goes + " goes, part " + comes + " comes", x.swap(5000, 0), 100 * goes + comes);
        }
    }

    private static void swapNone() {
        due.sentence(26, "(NONE: none). BAD; SPENT; NO.");
        DinnerBoxes x = kitchen(2, 3);
        x.choose(1, -1);
        x.lot(0, 100);
        x.lot(1, 100);
        int[] want = {Due.NONE, Due.NONE, 1};
        due.sentence(26, "NONE: there is none.");
        for (int f = 0; f < 3; f++) due.is("family " + f, x.swap(2, f), want[f]);
        due.sentence(26, "BAD; SPENT; NO.");
        due.is("no family", x.swap(2, 3), Due.BAD);
        due.is("no family, spent", x.swap(1, 3), Due.BAD);
        due.is("spent", x.swap(1, 0), Due.SPENT);
        due.is("spent, an empty box", x.swap(1, 1), Due.SPENT);
        x.recall(1);
        due.is("there is none", x.swap(3, 2), Due.NO);
        due.is("there is none, an empty box", x.swap(3, 1), Due.NO);
        due.is("there is none, spent", x.swap(2, 2), Due.SPENT);
        due.is("tries 0, no family", x.swap(0, 3), Due.BAD);
    }

    private static void packRefused() {
        due.sentence(27, "BAD; NO: TODAY is PACKED; SPENT; NO: there is no PLAN.");
        DinnerBoxes x = kitchen(2, 2);
        due.is("there is no plan", x.pack(3), Due.NO);
        due.is("there is no plan, spent", x.pack(2), Due.SPENT);
        due.is("there is no plan, bad", x.pack(0), Due.BAD);
        due.is("not packed", x.count(5), 0);
        x.lot(0, 199);
        x.lot(1, 100);
        due.is("spent", x.pack(1), Due.SPENT);
        due.is("not packed, spent", x.count(5), 0);
        due.is("stock stays", x.stock(0, 0), 199);
        due.is("just so many tries", x.pack(2), 200);
        due.is("packed", x.count(5), 1);
        due.is("packed, spent", x.pack(1), Due.NO);
        due.is("packed, bad", x.pack(5001), Due.BAD);
        due.sentence(27, "PACKED are all BOXES of TODAY by THE PLAN, once a WEEK");
        x.lot(0, 999);
        due.is("once more", x.pack(5000), Due.NO);
        due.is("stock stays", x.stock(0, 0), 999 + 99);
        x.end();
        x.menu(1);
        due.is("in the next week", x.pack(5000), 200);
    }

    private static void packNothing() {
        due.sentence(27, "TODAY's BOXES are PACKED by THE PLAN: how many grams in all.");
        DinnerBoxes x = new DinnerBoxes();
        due.is("a new object", x.pack(1), 0);
        due.is("is packed", x.count(5), 1);
        due.is("is packed once", x.pack(1), Due.NO);
        DinnerBoxes y = kitchen(1, 2);
        y.choose(0, -1);
        y.choose(1, -1);
        due.is("all skipped", y.pack(1), 0);
        due.is("all skipped, packed", y.count(5), 1);
        DinnerBoxes z = Kitchens.of(0, 2, 1);
        z.menu(3);
        due.is("meals without parts", z.pack(1), 0);
        due.is("their box", z.box(0, 0), 3);
    }

    private static void packMost() {
        due.sentence(27, "TODAY's BOXES are PACKED by THE PLAN: how many grams in all.");
        DinnerBoxes x = new DinnerBoxes();
        Kitchens.parts(x, 10);
        Kitchens.meals(x, 2);
        for (int p = 0; p < 10; p++) x.with(p / 5, p, 999);
        for (int f = 0; f < 12; f++) x.family(0, 6);
        x.menu(3);
        for (int p = 0; p < 10; p++) x.lot(p, 12 * 6 * 999);
        due.is("the most", x.pack(1), 10 * 12 * 6 * 999);
        for (int p = 0; p < 10; p++) {
            due.is("nothing is left of part " + p, x.stock(p, 0), 0);
            due.is("packed of part " + p, x.stock(p, 3), 12 * 6 * 999);
            due.is("all got of it", x.recall(p), 4095);
        }
    }

    private static void packFromLots() {
        due.sentence(27, "FAMILIES by number, PARTS by number, from LOTS that came first (of those that are not spoilt)");
        DinnerBoxes x = new DinnerBoxes();
        x.part(0, 10000, 1);
        Kitchens.meals(x, 1);
        x.with(0, 0, 100);
        Kitchens.families(x, 3);
        x.lot(0, 500);
        x.end();
        x.lot(0, 100);
        x.lot(0, 50);
        x.end();
        x.lot(0, 149);
        x.lot(0, 2);
        x.menu(1);
        due.is("pack", x.pack(1), 300);
        int[] left = {0, 0, 0, 0, 1}, got = {0, 1, 2, 6, 4};
        for (int l = 0; l < 5; l++) {
            due.is("left of lot " + l, x.told(l, 3), left[l]);
            due.is("got of lot " + l, x.recall(l), got[l]);
        }
        due.is("the spoilt one was thrown", x.stock(0, 4), 501);
    }

    private static void packedBoxes() {
        due.sentence(27, "Then the WEEK's BOXES stay as they are.");
        DinnerBoxes x = kitchen(2, 2);
        x.choose(1, -1);
        x.lot(1, 100);
        due.is("pack", x.pack(5000), 100);
        due.is("the box by the choice", x.box(0, 0), 1);
        due.is("the skipped box", x.box(1, 0), 0);
        due.is("needs by the box, without the swap", x.stock(0, 1), 100);
        due.is("no needs of what came", x.stock(1, 1), 0);
        x.family(0, 1);
        due.is("a family that comes then", x.box(2, 0), 0);
        due.is("needs stay", x.stock(0, 1), 100);
    }

    private static void tell() {
        due.sentence(32, "One more number waits: how many. FULL: 36 wait.");
        DinnerBoxes x = new DinnerBoxes();
        int[] odd = {Integer.MIN_VALUE, Integer.MAX_VALUE, -1, 0, Due.FULL, Due.BAD};
        for (int i = 1; i <= 36; i++) due.is("number " + i, x.tell(odd[i % 6]), i);
        due.is("the 37th", x.tell(0), Due.FULL);
        due.is("again", x.tell(0), Due.FULL);
        due.is("wait", x.count(7), 36);
        x.check();
        due.is("behind a check", x.tell(0), 1);
    }

    private static void tellAll(DinnerBoxes x, int many, int... numbers) {
        for (int i = 0; i < many; i++) x.tell(numbers[i]);
    }

    private static void check() {
        due.sentence(33, "else 1 and how many stand right ahead of the first that is not (or is missing, or one too many)");
        DinnerBoxes x = new DinnerBoxes();
        due.is("no rows, none wait", x.check(), 0);
        x.tell(0);
        due.is("no rows, one waits", x.check(), 1);
        for (int i = 0; i < 36; i++) x.tell(i);
        due.is("no rows, 36 wait", x.check(), 1);
        DinnerBoxes y = kitchen(2, 2);
        y.lot(0, 100);
        y.lot(1, 100);
        int[] rows = {1, 0, 1, 0};
        for (int many = 0; many <= 4; many++) {
            tellAll(y, many, rows);
            due.is(many + " wait", y.check(), many == 3 ? 0 : 1 + Math.min(many, 3));
            due.is("none do then", y.count(7), 0);
        }
        due.sentence(33, "ROWS of THE PLAN: of each FAMILY with a SWAP its number, the PART that goes, the PART that comes.");
        for (int wrong = 0; wrong < 3; wrong++) for (int by : new int[] {1, -1, 1 << 16, Integer.MIN_VALUE}) {
            for (int i = 0; i < 3; i++) y.tell(i == wrong ? rows[i] + by : rows[i]);
            due.is("number " + wrong + " is not right", y.check(), wrong + 1);
        }
        for (int i = 0; i < 36; i++) y.tell(i < 3 ? rows[i] : 0);
        due.is("36 wait, 3 are right", y.check(), 4);
        tellAll(y, 3, rows);
        due.is("right once more", y.check(), 0);
    }

    private static void checkMost() {
        due.sentence(33, "The numbers that wait (none do then) are ROWS of THE PLAN (with 5000 TRIES), three by three: 0");
        DinnerBoxes x = kitchen(2, 12);
        x.lot(1, 1200);
        int[] rows = new int[36];
        for (int i = 0; i < 36; i++) rows[i] = i % 3 == 0 ? i / 3 : i % 3 - 1;
        tellAll(x, 36, rows);
        due.is("twelve rows", x.check(), 0);
        due.is("none wait", x.count(7), 0);
        tellAll(x, 35, rows);
        due.is("the last is missing", x.check(), 36);
        tellAll(x, 35, rows);
        x.tell(2);
        due.is("the last is not right", x.check(), 36);
        due.is("none wait, though it was not right", x.check(), 1);
    }

    /** Kitchens of which THE PLAN takes just 5000 TRIES, and one more. */
    private static void checkTries() {
        due.sentence(33, "ROWS of THE PLAN (with 5000 TRIES)");
        DinnerBoxes x = portions(3, 100, 3, 2, 1, 1, 3, 2, 3, 2);
        x.lot(0, 100);
        x.lot(1, 1600);
        x.lot(2, 600);
        x.unlike(0, 2, 93);
        due.is("with 5000", x.plan(5000), 800);
        due.is("with 4999", x.plan(4999), Due.SPENT);
        for (int f : new int[] {0, 1, 3, 4, 5, 6, 7}) tellAll(x, 3, f, 0, 1);
        due.is("check with 5000", x.check(), 0);
        due.is("pack with 4999", x.pack(4999), Due.SPENT);
        due.is("pack with 5000", x.pack(5000), 1700);
        DinnerBoxes y = portions(4, 100, 3, 1, 1, 2, 3, 3, 1);
        int[] grams = {500, 400, 300, 600};
        for (int p = 0; p < 4; p++) y.lot(p, grams[p]);
        y.unlike(0, 2, 48);
        y.unlike(0, 3, 30);
        due.is("5001 would be done", y.plan(5000), Due.SPENT);
        due.is("check", y.check(), Due.SPENT);
        due.is("swap", y.swap(5000, 0), Due.SPENT);
        due.is("pack", y.pack(5000), Due.SPENT);
    }

    private static void checkRefused() {
        due.sentence(33, "changes nothing (but the tape and the numbers that wait, where told)");
        DinnerBoxes x = kitchen(2, 1);
        x.tell(1);
        due.is("there is no plan", x.check(), Due.NO);
        due.is("none wait then", x.count(7), 0);
        DinnerBoxes y = kitchen(14, 12);
        y.tell(1);
        y.tell(2);
        due.is("spent", y.check(), Due.SPENT);
        due.is("none wait then, spent", y.count(7), 0);
    }
}
