/** The boundary cases of promises 19 to 21, each under the sentence that names it; single numbers are in RangesTest. */
public final class MenusEdgesTest {
    private static final Due due = new Due();

    public static void main(String[] args) {
        menu();
        choicesAreNone();
        bestAtTheEnds();
        tastes();
        greens();
        keptFamilies();
        cost();
        firstByMeals();
        tries();
        kept();
        due.named(19, 21);
        due.end();
    }

    private static void menu() {
        due.sentence(19, "THE MENU of TODAY is MEALS (bits): how many.");
        DinnerBoxes x = new DinnerBoxes();
        due.is("none of none", x.menu(0), 0);
        due.is("one of none", x.menu(1), Due.BAD);
        Kitchens.meals(x, 10);
        due.is("all", x.menu(1023), 10);
        due.is("all are there", x.count(4), 10);
        due.is("the last", x.menu(512), 1);
        due.is("none", x.menu(0), 0);
        due.is("none are there", x.count(4), 0);
        due.sentence(19, "BAD: bits of no MEALS");
        x.menu(6);
        for (int bits : new int[] {1024, 1025, 1 << 30, -1, Integer.MIN_VALUE, Integer.MIN_VALUE | 1}) due.is("bits " + bits, x.menu(bits), Due.BAD);
        due.is("two stay", x.count(4), 2);
        due.sentence(19, "NO: TODAY is PACKED");
        x.pack(1);
        due.is("another", x.menu(1), Due.NO);
        due.is("the same", x.menu(6), Due.NO);
        due.is("none", x.menu(0), Due.NO);
        due.is("two stay", x.count(4), 2);
        due.sentence(19, "of several the one that stands first with it");
        due.is("packed and bad", x.menu(1024), Due.BAD);
        due.sentence(19, "THE MENU of a WEEK: MEALS (bits; none at first)");
        x.end();
        due.is("in a new week", x.count(4), 0);
        due.is("a menu again", x.menu(1023), 10);
        x.end();
        due.is("behind a week that was not packed", x.count(4), 0);
    }

    private static void choicesAreNone() {
        due.sentence(19, "All CHOICES for TODAY are none.");
        DinnerBoxes x = Kitchens.of(0, 3, 12);
        x.menu(7);
        x.choose(0, 5);
        x.choose(11, -1);
        due.is("a menu that is bad", x.menu(8), Due.BAD);
        due.is("the first one's stays", x.choose(0, 5), 5);
        due.is("the last one's stays", x.choose(11, -1), -1);
        due.is("the same menu", x.menu(7), 3);
        due.is("the first one's", x.choose(0, 5), 0);
        due.is("the last one's", x.choose(11, -1), 0);
    }

    private static void bestAtTheEnds() {
        due.sentence(20, "BAD; SPENT; NO: there is none.");
        DinnerBoxes x = new DinnerBoxes();
        for (int n = 1; n <= 4; n++) due.is("of no meals " + n, x.best(n, 1), Due.NO);
        due.is("of no meals, n bad", x.best(5, 1), Due.BAD);
        x.meal(2, 0);
        due.is("of one meal", x.best(1, 1), 1);
        for (int n = 2; n <= 4; n++) due.is("too few meals " + n, x.best(n, 1), Due.NO);
        x.meal(1, 1);
        due.is("two of two", x.best(2, 2000), 3);
        due.is("three of two", x.best(3, 3), Due.NO);
        due.is("three of two, spent", x.best(3, 2), Due.SPENT);
        due.is("n bad, spent", x.best(0, 1), Due.BAD);
        due.is("tries bad, there is none", x.best(3, 0), Due.BAD);
        DinnerBoxes y = Kitchens.of(0, 10, 0);
        due.is("four of ten", y.best(4, 2000), 15);
        due.is("one of ten", y.best(1, 2000), 1);
    }

    private static void tastes() {
        due.sentence(20, "no TASTE twice");
        DinnerBoxes x = new DinnerBoxes();
        for (int taste : new int[] {15, 15, 0, 0, 7}) x.meal(2, taste);
        due.is("one", x.best(1, 2000), 1);
        due.is("two", x.best(2, 2000), 1 + 4);
        due.is("three", x.best(3, 2000), 1 + 4 + 16);
        due.is("four of three tastes", x.best(4, 2000), Due.NO);
        DinnerBoxes y = new DinnerBoxes();
        y.meal(2, 15);
        y.meal(2, 15);
        due.is("two of one taste", y.best(2, 2), Due.NO);
        due.is("two of one taste, spent", y.best(2, 1), Due.SPENT);
    }

    private static void greens() {
        due.sentence(20, "at least one GREEN");
        int[] green = {0, 0, 1, 1};
        for (int kind = 0; kind < 4; kind++) {
            DinnerBoxes x = new DinnerBoxes();
            x.meal(0, 0);
            x.meal(1, 1);
            x.meal(kind, 2);
            due.is("one of kind " + kind, x.best(1, 2000), green[kind] == 1 ? 4 : Due.NO);
            due.is("two with kind " + kind, x.best(2, 2000), green[kind] == 1 ? 5 : Due.NO);
            due.is("three with kind " + kind, x.best(3, 2000), green[kind] == 1 ? 7 : Due.NO);
        }
        DinnerBoxes x = Kitchens.of(0, 3, 1);
        x.meal(0, 9);
        due.is("the others may be green too", x.best(2, 2000), 3);
        DinnerBoxes y = new DinnerBoxes();
        y.keep();
        y.meal(2, 0);
        due.is("a green one", y.best(1, 1), 1);
        y.back();
        y.meal(0, 0);
        due.is("another one in its place", y.best(1, 1), Due.NO);
    }

    private static void keptFamilies() {
        due.sentence(20, "so that the most FAMILIES are KEPT (MAY eat 2 or more of it that they like 5 or more; 1 if n is 1)");
        DinnerBoxes x = new DinnerBoxes();
        x.part(1, 100, 1);
        Kitchens.meals(x, 4);
        x.with(1, 0, 999);
        x.family(0, 1);
        x.likes(0, 0, 4);
        due.is("one: liked 4 does not keep", x.best(1, 2000), 4);
        x.likes(0, 0, 5);
        due.is("one: liked 5 keeps", x.best(1, 2000), 1);
        x.likes(0, 0, 0);
        x.likes(0, 2, 4);
        x.likes(0, 3, 4);
        due.is("one: the dear one keeps", x.best(1, 2000), 2);
        x.likes(0, 3, 5);
        due.is("two: both must be liked", x.best(2, 2000), 2 + 8);
        x.family(1, 1);
        x.family(1, 1);
        due.is("two: two that may not eat meal 1 are more than one", x.best(2, 2000), 1 + 4);
        x.likes(1, 0, 4);
        x.likes(2, 0, 4);
        due.is("two: they are kept by meals 2 and 3", x.best(2, 2000), 4 + 8);
        due.is("three: two of three keep all", x.best(3, 2000), 2 + 4 + 8);
        x.likes(0, 2, 5);
        due.is("three: two of three keep all for less", x.best(3, 2000), 1 + 4 + 8);
    }

    private static void cost() {
        due.sentence(20, "of several that with the least COST of all");
        DinnerBoxes x = new DinnerBoxes();
        x.part(0, 10000, 1);
        x.part(0, 99900, 1);
        Kitchens.meals(x, 4);
        int[] grams = {3, 2, 2, 1};
        for (int m = 0; m < 4; m++) x.with(m, 0, grams[m]);
        due.is("one", x.best(1, 2000), 8);
        due.is("two", x.best(2, 2000), 2 + 8);
        due.is("three", x.best(3, 2000), 2 + 4 + 8);
        x.with(3, 1, 1);
        due.is("one dearer", x.best(1, 2000), 2);
        due.is("two of the same cost", x.best(2, 2000), 2 + 4);
        x.with(0, 0, 1);
        due.is("one less in the first", x.best(2, 2000), 1 + 2);
    }

    private static void firstByMeals() {
        due.sentence(20, "then the first by MEALS");
        DinnerBoxes x = Kitchens.of(0, 4, 2);
        int[][] likes = {{5, 0, 0, 5}, {0, 5, 5, 0}};
        for (int f = 0; f < 2; f++) for (int m = 0; m < 4; m++) x.likes(f, m, likes[f][m]);
        due.is("0 and 3 stand ahead of 1 and 2", x.best(2, 2000), 1 + 8);
        due.sentence(20, "It is sought by MEALS, the lesser first");
        due.is("0, 1 and 2 first of those that keep one", x.best(3, 2000), 1 + 2 + 4);
        due.is("the first of all", x.best(1, 2000), 1);
    }

    private static void tries() {
        due.sentence(20, "each that may be next is put (a TRY; also if too few are left behind it). SPENT: more than so many TRIES would be done.");
        DinnerBoxes x = Kitchens.of(0, 10, 12);
        int[] most = {10, 10 + 45, 10 + 45 + 120, 10 + 45 + 120 + 210};
        for (int n = 1; n <= 4; n++) {
            due.is("so many, n " + n, x.best(n, most[n - 1]), (1 << n) - 1);
            due.is("one more, n " + n, x.best(n, most[n - 1] + 1), (1 << n) - 1);
            due.is("one less, n " + n, x.best(n, most[n - 1] - 1), Due.SPENT);
            due.is("one, n " + n, x.best(n, 1), Due.SPENT);
        }
        DinnerBoxes y = new DinnerBoxes();
        y.meal(2, 0);
        y.meal(0, 1);
        due.is("the last has too few behind it", y.best(2, 3), 3);
        due.is("the last has too few behind it, spent", y.best(2, 2), Due.SPENT);
        due.is("that is not green is a try", y.best(1, 2), 1);
        due.is("that is not green is a try, spent", y.best(1, 1), Due.SPENT);
        y.meal(2, 1);
        due.is("a taste that is there is no try", y.best(2, 5), 3);
        due.is("a taste that is there is no try, spent", y.best(2, 4), Due.SPENT);
    }

    private static void kept() {
        due.sentence(21, "How many FAMILIES a menu (bits; 1 to 4 MEALS) keeps.");
        DinnerBoxes x = new DinnerBoxes();
        for (int m = 0; m < 10; m++) x.meal(0, 0);
        due.is("no families", x.kept(1), 0);
        Kitchens.families(x, 12);
        int[][] rows = {{0, Due.BAD}, {1, 12}, {512, 12}, {3, 12}, {513, 12}, {7, 12}, {15, 12}, {960, 12}, {31, Due.BAD}, {992, Due.BAD}, {1023, Due.BAD},
            {1024, Due.BAD}, {1025, Due.BAD}, {1 << 30, Due.BAD}, {-1, Due.BAD}, {Integer.MIN_VALUE, Due.BAD}, {Integer.MIN_VALUE | 1, Due.BAD}};
        for (int[] r : rows) due.is("menu " + r[0], x.kept(r[0]), r[1]);
        due.sentence(21, "KEPT (MAY eat 2 or more of it that they like 5 or more; 1 if n is 1)");
        x.likes(0, 0, 4);
        due.is("one, liked 4", x.kept(1), 11);
        due.is("two, one liked 4", x.kept(3), 11);
        due.is("three, one liked 4", x.kept(7), 12);
        x.likes(0, 1, 4);
        due.is("three, two liked 4", x.kept(7), 11);
        due.is("four, two liked 4", x.kept(15), 12);
        x.likes(0, 2, 0);
        due.is("four, one liked", x.kept(15), 11);
        x.likes(0, 0, 5);
        due.is("four, two liked", x.kept(15), 12);
        x.likes(0, 0, 9);
        due.is("one, liked 9", x.kept(1), 12);
        DinnerBoxes y = new DinnerBoxes();
        y.part(1, 100, 1);
        y.meal(2, 0);
        y.meal(2, 0);
        y.meal(1, 0);
        y.with(0, 0, 1);
        y.family(1, 10001);
        due.is("barred", y.kept(1), 0);
        due.is("green", y.kept(2), 1);
        due.is("not green", y.kept(4), 0);
        due.is("one of three", y.kept(7), 0);
    }
}
