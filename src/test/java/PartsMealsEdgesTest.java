/** The boundary cases of promises 1 to 7, each under the sentence that names it; single numbers are in RangesTest. */
public final class PartsMealsEdgesTest {
    private static final Due due = new Due();

    public static void main(String[] args) {
        face();
        newObject();
        calls();
        partsAtMost();
        partsHow();
        partsAsTold();
        unlike();
        mealsAtMost();
        kinds();
        partsOfAMeal();
        inTheMenu();
        about();
        cost();
        due.named(1, 7);
        due.end();
    }

    private static void face() {
        due.sentence(1, "public static final int BAD = -1000000001, NO = -1000000002, FULL = -1000000003, SPENT = -1000000004, NONE = -1000000005, "
            + "NOTHING = -1000000011, INDEX = -1000000013, SIZE = -1000000014;");
        int[] are = {DinnerBoxes.BAD, DinnerBoxes.NO, DinnerBoxes.FULL, DinnerBoxes.SPENT, DinnerBoxes.NONE, DinnerBoxes.NOTHING, DinnerBoxes.INDEX, DinnerBoxes.SIZE};
        int[] want = {-1000000001, -1000000002, -1000000003, -1000000004, -1000000005, -1000000011, -1000000013, -1000000014};
        for (int i = 0; i < 8; i++) due.is("constant " + i, are[i], want[i]);
    }

    /** One object for as many calls as it is used for, each of them still right. */
    private static void calls() {
        due.sentence(1, "An object is used for at most 512 calls after it has been made");
        DinnerBoxes x = new DinnerBoxes();
        for (int i = 1; i <= 512; i++) due.is("heat, call " + i, x.heat(i % 61), i == 1 ? 20 : (i - 1) % 61);
        DinnerBoxes y = Kitchens.of(1, 1, 1);
        y.lot(0, 500);
        y.menu(1);
        y.keep();
        for (int i = 8; i < 512; i += 2) {
            due.is("pack, call " + i, y.pack(1), 100);
            due.is("back, call " + (i + 1), y.back(), 0);
        }
        DinnerBoxes z = Kitchens.of(0, 1, 1);
        for (int i = 3; i + 10 <= 512; i += 10) {
            Due.write(z, "mark 1 ice g+h+m+" + i);
            due.is("law, call " + (i + 4), z.law(), 5);
            z.menu(1);
            due.is("ice, call " + (i + 6), z.ice(0), 20 + i);
            due.is("keep, call " + (i + 7), z.keep(), 0);
            due.is("check, call " + (i + 8), z.check(), 0);
            due.is("shifts, call " + (i + 9), z.shifts(1), 0);
        }
    }

    private static void newObject() {
        DinnerBoxes x = new DinnerBoxes();
        due.sentence(1, "No PARTS, no MEALS.");
        due.is("parts", x.count(0), 0);
        due.is("meals", x.count(1), 0);
        due.is("part 0", x.stock(0, 0), Due.BAD);
        due.is("meal 0", x.about(0, 0), Due.BAD);
        due.sentence(1, "TODAY is WEEK 0 at first");
        due.is("today", x.count(6), 0);
        due.sentence(1, "THE MENU of a WEEK: MEALS (bits; none at first)");
        due.is("menu", x.count(4), 0);
        due.sentence(1, "HEAT of the WEEK (0 .. 60; 20 at first)");
        due.is("heat", x.heat(20), 20);
        due.sentence(1, "or MISSING (at first)");
        due.is("sheet 0", x.mark(0, 0, 0), Due.NOTHING);
        due.is("sheet 1", x.mark(1, 0, 0), Due.NOTHING);
        due.sentence(1, "`DinnerBoxes()`: No PARTS, no MEALS.");
        DinnerBoxes full = Kitchens.filled();
        DinnerBoxes y = new DinnerBoxes();
        for (int what = 0; what <= 8; what++) due.is("count of a new one beside a full one " + what, y.count(what), 0);
        due.is("image of a new one", y.back(), Due.NO);
        due.is("the full one", full.count(0), 14);
    }

    private static void partsAtMost() {
        due.sentence(2, "PARTS, 14 at most, numbered from 0");
        DinnerBoxes x = new DinnerBoxes();
        for (int p = 0; p < 14; p++) due.is("part " + p, x.part(0, 100, 1), p);
        due.is("the 15th", x.part(0, 100, 1), Due.FULL);
        due.is("the 15th again", x.part(0, 100, 1), Due.FULL);
        due.is("parts", x.count(0), 14);
        due.sentence(2, "BAD; FULL.");
        due.is("full, allergens bad", x.part(256, 100, 1), Due.BAD);
        due.is("full, how bad", x.part(0, 99, 1), Due.BAD);
        due.is("full, keeps bad", x.part(0, 100, 21), Due.BAD);
    }

    private static void how(int how, boolean taken) {
        due.is("part of how " + how, new DinnerBoxes().part(0, how, 1), taken ? 0 : Due.BAD);
    }

    private static void partsHow() {
        due.sentence(2, "a PRICE 1 .. 999 (for 100 grams)");
        for (int rest : new int[] {0, 5, 30, 35}) {
            how(rest, false);
            how(100 + rest, true);
            how(99900 + rest, true);
            how(100000 + rest, false);
        }
        due.sentence(2, "a SORT 0 .. 5");
        for (int sort = 0; sort <= 9; sort++) for (int station = 0; station <= 3; station++) how(500 + 10 * station + sort, sort <= 5);
        due.sentence(2, "a STATION 0 .. 3");
        for (int station = 0; station <= 9; station++) how(500 + 10 * station, station <= 3);
        due.sentence(2, "/ cuts (nothing below 0 is divided, but where told)");
        for (int below : new int[] {-1, -35, -65, -99, -100, -135, -10000, -99935, Integer.MIN_VALUE}) how(below, false);
        due.sentence(2, "how is 100 * PRICE, 10 * STATION and SORT");
        how(Integer.MAX_VALUE, false);
        how(1000000, false);
        how(1 << 30, false);
    }

    private static void partsAsTold() {
        DinnerBoxes x = new DinnerBoxes();
        x.part(255, 130, 1);
        x.part(0, 99905, 20);
        x.part(128, 105, 20);
        x.part(1, 104, 20);
        Kitchens.meals(x, 3);
        x.with(0, 0, 100);
        x.with(1, 1, 100);
        x.with(2, 2, 100);
        due.sentence(2, "ALLERGENS (bits 0 .. 7)");
        due.is("all bits", x.about(0, 2), 255);
        due.is("no bit", x.about(1, 2), 0);
        due.is("the highest bit", x.about(2, 2), 128);
        due.sentence(2, "a PRICE 1 .. 999 (for 100 grams)");
        due.is("the least price", x.about(0, 3), 1);
        due.is("the highest price", x.about(1, 3), 999);
        Kitchens.families(x, 1);
        due.sentence(2, "a STATION 0 .. 3");
        x.menu(1);
        due.is("picks of station 3", x.picks(3, 0, 0), 1);
        due.is("picks of station 0", x.picks(0, 0, 0), 0);
        x.menu(2);
        due.is("picks of station 0", x.picks(0, 0, 0), 1);
        due.is("picks of station 3", x.picks(3, 0, 0), 0);
        due.sentence(2, "a SORT 0 .. 5");
        x.lot(3, 100);
        due.is("sort 4 for sort 5", x.plan(5000), Due.NO);
        x.lot(0, 100);
        due.is("sort 0 for sort 5", x.plan(5000), Due.NO);
        x.lot(2, 100);
        due.is("sort 5 for sort 5", x.swap(5000, 0), 102);
        due.sentence(2, "KEEPS 1 .. 20 WEEKS");
        for (int w = 0; w < 1; w++) x.end();
        due.is("keeps 1, in week 1", x.told(1, 3), 100);
        x.end();
        due.is("keeps 1, in week 2", x.told(1, 3), 0);
        for (int w = 2; w < 20; w++) x.end();
        due.is("keeps 20, in week 20", x.told(2, 3), 100);
        x.end();
        due.is("keeps 20, in week 21", x.told(2, 3), 0);
    }

    private static void unlike() {
        DinnerBoxes x = Kitchens.of(14, 0, 0);
        due.sentence(3, "50 at first");
        due.is("the first two", x.unlike(0, 1, 1), 50);
        due.is("the last two", x.unlike(12, 13, 99), 50);
        due.is("the first and the last", x.unlike(13, 0, 98), 50);
        due.sentence(3, "both ways alike");
        due.is("the first two", x.unlike(1, 0, 2), 1);
        due.is("the last two", x.unlike(13, 12, 2), 99);
        due.is("the first and the last", x.unlike(0, 13, 2), 98);
        due.sentence(3, "BAD: also of one with itself.");
        for (int p = 0; p < 14; p++) due.is("part " + p, x.unlike(p, p, 50), Due.BAD);
        due.is("no part with itself", x.unlike(14, 14, 50), Due.BAD);
        due.sentence(3, "UNLIKE of two PARTS becomes v: what it was.");
        due.is("v as it is", x.unlike(0, 1, 2), 2);
        due.is("0 is refused", x.unlike(0, 1, 0), Due.BAD);
        due.is("100 is refused", x.unlike(0, 1, 100), Due.BAD);
        due.is("so it stays", x.unlike(0, 1, 99), 2);
        due.is("and becomes", x.unlike(0, 1, 1), 99);
    }

    private static void mealsAtMost() {
        due.sentence(4, "MEALS, 10 at most, numbered from 0");
        DinnerBoxes x = new DinnerBoxes();
        for (int m = 0; m < 10; m++) due.is("meal " + m, x.meal(0, 0), m);
        due.is("the 11th", x.meal(0, 0), Due.FULL);
        due.is("the 11th again", x.meal(3, 15), Due.FULL);
        due.is("meals", x.count(1), 10);
        due.sentence(4, "BAD; FULL.");
        due.is("full, kind bad", x.meal(4, 0), Due.BAD);
        due.is("full, taste bad", x.meal(0, 16), Due.BAD);
        due.sentence(4, "a TASTE 0 .. 15");
        DinnerBoxes y = new DinnerBoxes();
        y.meal(0, 0);
        y.meal(3, 15);
        due.is("taste 0", y.about(0, 1), 0);
        due.is("taste 15", y.about(1, 1), 15);
        due.is("kind 0", y.about(0, 0), 0);
        due.is("kind 3", y.about(1, 0), 3);
    }

    private static void kinds() {
        DinnerBoxes x = new DinnerBoxes();
        for (int k = 0; k < 4; k++) x.meal(k, 0);
        due.sentence(5, "KINDS 0 MEAL, 1 MEAT, 2 GREEN, 3 RAW, under GREEN (all are MEALS)");
        int[][] is = {{1, 0, 0, 0}, {1, 1, 0, 0}, {1, 0, 1, 0}, {1, 0, 1, 1}};
        due.sentence(5, "Whether a MEAL is of a KIND: 1, 0.");
        for (int m = 0; m < 4; m++) for (int k = 0; k < 4; k++) due.is("kind " + m + " of kind " + k, x.isOf(m, k), is[m][k]);
    }

    private static void partsOfAMeal() {
        DinnerBoxes x = new DinnerBoxes();
        Kitchens.parts(x, 14);
        Kitchens.meals(x, 2);
        due.sentence(6, "PARTS of it: up to 5, each with grams 1 .. 999 for a PORTION (none at first)");
        due.is("at first", x.about(0, 4), 0);
        for (int i = 0; i < 5; i++) due.is("part " + i, x.with(0, 13 - i, 1), i + 1);
        due.is("the sixth", x.with(0, 0, 1), Due.FULL);
        due.is("still five", x.about(0, 4), 5);
        due.is("grams of the least", x.about(0, 5), 5);
        due.sentence(6, "A PART with grams comes to a MEAL (grams anew, if it is there): how many PARTS it has.");
        for (int i = 0; i < 5; i++) due.is("part " + i + " anew", x.with(0, 13 - i, 999), 5);
        due.is("grams of the most", x.about(0, 5), 5 * 999);
        due.is("the other meal has none", x.about(1, 4), 0);
        due.sentence(6, "BAD; NO: it is in THE MENU; FULL.");
        due.is("full, grams 0", x.with(0, 0, 0), Due.BAD);
        due.is("full, no part", x.with(0, 14, 1), Due.BAD);
        x.menu(1);
        due.is("in the menu, full", x.with(0, 0, 1), Due.NO);
        due.is("in the menu, grams 1000", x.with(0, 13, 1000), Due.BAD);
        due.is("in the menu, no part", x.with(0, 14, 1), Due.BAD);
        due.is("in the menu, part -1", x.with(0, -1, 1), Due.BAD);
    }

    private static void inTheMenu() {
        DinnerBoxes x = new DinnerBoxes();
        Kitchens.parts(x, 2);
        Kitchens.meals(x, 10);
        due.sentence(6, "NO: it is in THE MENU");
        x.menu(513);
        due.is("the first", x.with(0, 0, 1), Due.NO);
        due.is("the last", x.with(9, 0, 1), Due.NO);
        for (int m = 1; m < 9; m++) due.is("meal " + m, x.with(m, 0, 1), 1);
        x.menu(2);
        due.is("no more in it", x.with(0, 0, 1), 1);
        due.is("grams anew in the menu", x.with(1, 0, 2), Due.NO);
        due.is("grams stay", x.about(1, 5), 1);
        x.pack(1);
        due.is("in the menu, packed", x.with(1, 0, 2), Due.NO);
        due.is("not in the menu, packed", x.with(0, 1, 2), 2);
        x.end();
        due.is("in the menu of the week ahead", x.with(1, 0, 2), 1);
    }

    private static void about() {
        DinnerBoxes x = new DinnerBoxes();
        x.part(1, 10000, 1);
        x.part(128, 10000, 1);
        x.part(129, 10000, 1);
        x.meal(0, 0);
        due.sentence(7, "PARTS of it: up to 5, each with grams 1 .. 999 for a PORTION (none at first)");
        for (int what = 0; what <= 6; what++) due.is("without parts, what " + what, x.about(0, what), 0);
        due.sentence(7, "ALLERGENS of a MEAL: those of all its PARTS.");
        x.with(0, 0, 1);
        due.is("of one", x.about(0, 2), 1);
        x.with(0, 1, 1);
        due.is("of two", x.about(0, 2), 129);
        x.with(0, 2, 1);
        due.is("some twice", x.about(0, 2), 129);
        due.sentence(7, "without a LAW none is MARKED");
        due.is("without", x.about(0, 6), 0);
        Due.law(x, "mark 1 ice");
        due.is("with one that has a fault", x.about(0, 6), 0);
        Due.law(x, "mark 1 ice 0");
        due.is("with one", x.about(0, 6), 1);
    }

    private static void cost() {
        DinnerBoxes x = new DinnerBoxes();
        x.part(0, 100, 1);
        x.part(0, 9900, 1);
        for (int p = 0; p < 5; p++) x.part(0, 99900, 1);
        Kitchens.meals(x, 2);
        due.sentence(7, "COST of a MEAL: of each PART grams times PRICE / 100, cut, together.");
        int[][] one = {{1, 0}, {99, 0}, {100, 1}, {199, 1}, {200, 2}, {999, 9}};
        for (int[] o : one) {
            x.with(0, 0, o[0]);
            due.is(o[0] + " grams at 1", x.about(0, 3), o[1]);
        }
        x.with(0, 0, 99);
        x.with(0, 1, 1);
        due.is("each is cut, not the sum", x.about(0, 3), 0);
        x.with(0, 1, 2);
        due.is("2 grams at 99", x.about(0, 3), 1);
        for (int p = 2; p < 7; p++) x.with(1, p, 999);
        due.is("the dearest", x.about(1, 3), 5 * 9980);
    }
}
