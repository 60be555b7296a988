import java.util.function.Supplier;

/** Of each number that each call takes: the last values that are still taken, and the first that are not. */
public final class RangesTest {
    private static final String PARTS = "PARTS, 14 at most, numbered from 0", MEALS = "MEALS, 10 at most, numbered from 0",
        FAMILIES = "FAMILIES, 12 at most, numbered from 0", LOTS = "LOTS, 40 at most, numbered from 0", SHEETS = "SHEETS 0, 1 are rows of shorts",
        KINDS = "KINDS 0 MEAL, 1 MEAT, 2 GREEN, 3 RAW", ALLERGENS = "ALLERGENS (bits 0 .. 7)", PLACES = "INDEX: there is no such place";
    private static final Due due = new Due();

    public static void main(String[] args) {
        partsAndMeals();
        families();
        lawAndMenus();
        lots();
        shifts();
        sheets();
        due.end();
    }

    /** What stands for # is taken from least to most, and refused below and above. */
    private static void taken(Supplier<DinnerBoxes> kitchen, String call, int least, int most, int below, int above) {
        refused(kitchen, call, Integer.MIN_VALUE, below);
        refused(kitchen, call, least - 1, below);
        for (int v : new int[] {least, most}) {
            int got = answer(kitchen, call, v);
            due.is(with(call, v) + " is taken: " + got + ";", got == below || got == above ? 0 : 1, 1);
        }
        refused(kitchen, call, most + 1, above);
        refused(kitchen, call, Integer.MAX_VALUE, above);
    }

    private static void refused(Supplier<DinnerBoxes> kitchen, String call, int v, int refusal) {
        due.is(with(call, v), answer(kitchen, call, v), refusal);
    }

    private static int answer(Supplier<DinnerBoxes> kitchen, String call, int v) {
        return Calls.call(kitchen.get(), with(call, v));
    }

    private static String with(String call, int v) {
        return call.replace("#", Integer.toString(v));
    }

    /** A range that does not depend on what there is. */
    private static void range(int promise, String words, String call, int least, int most) {
        due.sentence(promise, words);
        taken(Kitchens::few, call, least, most, Due.BAD, Due.BAD);
    }

    /** A number of one of so many, where there are few and where there are as many as there may be. */
    private static void number(int promise, String words, String call, int few, int filled) {
        due.sentence(promise, words);
        taken(Kitchens::few, call, 0, few - 1, Due.BAD, Due.BAD);
        taken(Kitchens::filled, call, 0, filled - 1, Due.BAD, Due.BAD);
    }

    private static void partsAndMeals() {
        range(2, ALLERGENS, "part # 10000 9", 0, 255);
        range(2, "KEEPS 1 .. 20 WEEKS", "part 0 10000 #", 1, 20);
        number(3, PARTS, "unlike # 1 7", 3, 14);
        number(3, PARTS, "unlike 1 # 7", 3, 14);
        range(3, "UNLIKE of two PARTS 1 .. 99", "unlike 0 1 #", 1, 99);
        range(4, KINDS, "meal # 0", 0, 3);
        range(4, "a TASTE 0 .. 15", "meal 0 #", 0, 15);
        number(5, MEALS, "isOf # 0", 3, 10);
        range(5, KINDS, "isOf 0 #", 0, 3);
        number(6, MEALS, "with # 0 5", 3, 10);
        number(6, PARTS, "with 0 # 5", 3, 14);
        range(6, "each with grams 1 .. 999 for a PORTION", "with 0 0 #", 1, 999);
        number(7, MEALS, "about # 0", 3, 10);
        range(7, "what 0 KIND, 1 TASTE, 2 ALLERGENS, 3 COST, 4 how many PARTS, 5 grams of all, 6 whether it is MARKED", "about 0 #", 0, 6);
    }

    private static void families() {
        range(8, "BARRED (ALLERGENS, bits)", "family # 1", 0, 255);
        number(9, FAMILIES, "likes # 0 5", 3, 12);
        number(9, MEALS, "likes 0 # 5", 3, 10);
        range(9, "LIKES of each MEAL 0 .. 9", "likes 0 0 #", 0, 9);
        number(10, FAMILIES, "lay # 0", 3, 12);
        range(10, SHEETS, "lay 0 #", 0, 1);
        number(11, FAMILIES, "may # 0", 3, 12);
        number(11, MEALS, "may 0 #", 3, 10);
        number(12, FAMILIES, "choose # 0", 3, 12);
        number(13, FAMILIES, "box # 0", 3, 12);
        number(13, "BOX of a FAMILY in a WEEK (0 .. TODAY)", "box 0 #", 2 + 1, 99 + 1);
        number(14, FAMILIES, "ice #", 3, 12);
    }

    private static void lawAndMenus() {
        number(16, "THE TAPE keeps its first n bytes: n. BAD.", "trim #", 36 + 1, 120 + 1);
        range(18, "HEAT of the WEEK (0 .. 60; 20 at first)", "heat #", 0, 60);
        number(19, "BAD: bits of no MEALS", "menu #", 1 << 3, 1 << 10);
        range(20, "THE BEST MENU of n (1 .. 4) MEALS", "best # 2000", 1, 4);
        range(20, "found with so many TRIES (1 .. 2000)", "best 1 #", 1, 2000);
        range(21, "How many FAMILIES a menu (bits; 1 to 4 MEALS) keeps", "kept #", 1, 7);
    }

    private static void lots() {
        range(22, PARTS, "lot # 5", 0, 2);
        range(22, "so many grams (1 .. 99999)", "lot 0 #", 1, 99999);
        number(23, LOTS, "told # 0", 3, 40);
        range(23, "what 0 PART, 1 grams that came, 2 the WEEK, 3 grams that are left", "told 0 #", 0, 3);
        number(24, PARTS, "stock # 0", 3, 14);
        range(24, "what 0 STOCK, 1 NEEDS of all for TODAY, 2 IN, 3 PACKED, 4 THROWN", "stock 0 #", 0, 4);
        range(25, "found with so many TRIES (1 .. 5000)", "plan #", 1, 5000);
        range(26, "found with so many TRIES (1 .. 5000)", "swap # 0", 1, 5000);
        number(26, FAMILIES, "swap 5000 #", 3, 12);
        range(27, "found with so many TRIES (1 .. 5000)", "pack #", 1, 5000);
        number(28, LOTS, "recall #", 3, 40);
    }

    private static void shifts() {
        range(30, "what 0 the most PICKS, 1 FAMILIES in SHIFT 1", "shifts #", 0, 1);
        range(31, "a STATION 0 .. 3", "picks # 0 0", 0, 3);
        range(31, "PICKS of a STATION in a SHIFT (0, 1)", "picks 0 # 0", 0, 1);
        number(31, "if so many FAMILIES (bits) are in SHIFT 1", "picks 0 0 #", 1 << 3, 1 << 12);
    }

    private static void sheets() {
        range(36, "BAD: sheet, n above 16; SIZE.", "sheet # 3", 0, 1);
        due.sentence(36, "BAD: sheet, n above 16; SIZE.");
        taken(Kitchens::few, "sheet 0 #", 0, 16, Due.SIZE, Due.BAD);
        range(37, SHEETS, "mark # 0 5", 0, 1);
        due.sentence(37, PLACES);
        taken(Kitchens::few, "mark 0 # 5", 0, 2, Due.INDEX, Due.INDEX);
        taken(Kitchens::filled, "mark 1 # 5", 0, 15, Due.INDEX, Due.INDEX);
        range(38, SHEETS, "copy # 0 0 0 1", 0, 1);
        range(38, SHEETS, "copy 0 0 # 0 1", 0, 1);
        due.sentence(38, PLACES);
        for (String call : new String[] {"copy 0 # 1 0 1", "copy 0 0 1 # 1", "copy 0 # 0 0 1", "copy 1 2 1 # 1"}) {
            taken(Kitchens::few, call, 0, 2, Due.INDEX, Due.INDEX);
        }
        taken(Kitchens::few, "copy 0 0 1 0 #", 0, 3, Due.INDEX, Due.INDEX);
        taken(Kitchens::filled, "copy 0 0 1 0 #", 0, 16, Due.INDEX, Due.INDEX);
        taken(Kitchens::few, "copy 0 # 1 0 0", 0, 3, Due.INDEX, Due.INDEX);
        taken(Kitchens::few, "copy 0 0 1 # 0", 0, 3, Due.INDEX, Due.INDEX);
        range(39, "How many: 0 PARTS, 1 MEALS, 2 FAMILIES, 3 LOTS, 4 MEALS in THE MENU, 5 whether TODAY is PACKED (1, 0), 6 TODAY, 7 numbers that wait, "
            + "8 bytes of THE TAPE.", "count #", 0, 8);
    }
}
