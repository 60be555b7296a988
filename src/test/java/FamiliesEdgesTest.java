/** The boundary cases of promises 8 to 14, each under the sentence that names it; single numbers are in RangesTest. */
public final class FamiliesEdgesTest {
    private static final Due due = new Due();

    public static void main(String[] args) {
        familiesAtMost();
        familiesHow();
        familiesAsTold();
        likes();
        lay();
        may();
        choices();
        wrongChoices();
        choicesByWeek();
        filled();
        guessed();
        weekAhead();
        boxesOfWeeksAhead();
        packedBoxes();
        ice();
        due.named(8, 14);
        due.end();
    }

    private static void familiesAtMost() {
        due.sentence(8, "FAMILIES, 12 at most, numbered from 0");
        DinnerBoxes x = new DinnerBoxes();
        for (int f = 0; f < 12; f++) due.is("family " + f, x.family(0, 1), f);
        due.is("the 13th", x.family(0, 1), Due.FULL);
        due.is("the 13th again", x.family(255, 19996), Due.FULL);
        due.is("families", x.count(2), 12);
        due.sentence(8, "BAD; FULL.");
        due.is("full, barred bad", x.family(256, 1), Due.BAD);
        due.is("full, how bad", x.family(0, 7), Due.BAD);
    }

    private static void how(int how, boolean taken) {
        due.is("family of how " + how, new DinnerBoxes().family(0, how), taken ? 0 : Due.BAD);
    }

    private static void familiesHow() {
        due.sentence(8, "PORTIONS 1 .. 6");
        for (int more : new int[] {0, 10, 9990, 10000, 19990}) {
            for (int portions = 0; portions <= 9; portions++) how(more + portions, portions >= 1 && portions <= 6);
        }
        due.sentence(8, "10000 more if it eats GREEN alone");
        how(20001, false);
        how(30001, false);
        how(100001, false);
        due.sentence(8, "/ cuts (nothing below 0 is divided, but where told)");
        for (int below : new int[] {-1, -4, -9, -9999, -10001, -19996, Integer.MIN_VALUE}) how(below, false);
        due.sentence(8, "how is 10 * MILES, and PORTIONS, 10000 more if it eats GREEN alone.");
        how(Integer.MAX_VALUE, false);
        how((1 << 30) + 1, false);
    }

    private static void familiesAsTold() {
        DinnerBoxes x = new DinnerBoxes();
        x.part(0, 100, 1);
        x.meal(2, 0);
        x.meal(0, 1);
        x.with(0, 0, 1);
        int[] how = {1, 6, 9991, 9996, 10001, 19996}, miles = {0, 0, 999, 999, 0, 999}, portions = {1, 6, 1, 6, 1, 6};
        for (int h : how) x.family(0, h);
        x.menu(1);
        Due.law(x, "mark 1 ice m");
        due.sentence(8, "MILES 0 .. 999");
        for (int f = 0; f < 6; f++) due.is("how " + how[f], x.ice(f), miles[f]);
        Due.law(x, "mark 1 ice g");
        due.sentence(8, "PORTIONS 1 .. 6");
        for (int f = 0; f < 6; f++) due.is("how " + how[f], x.ice(f), portions[f]);
        due.sentence(8, "10000 more if it eats GREEN alone");
        for (int f = 0; f < 6; f++) due.is("how " + how[f], x.may(f, 1), f < 4 ? 1 : 0);
    }

    private static void likes() {
        DinnerBoxes x = new DinnerBoxes();
        due.sentence(9, "LIKES of each MEAL 0 .. 9 (5 at first)");
        Kitchens.meals(x, 5);
        Kitchens.families(x, 12);
        for (int m = 5; m < 10; m++) x.meal(0, m);
        for (int m = 0; m < 10; m++) due.is("the last family's of meal " + m, x.likes(11, m, m), 5);
        for (int m = 0; m < 10; m++) due.is("what they became of meal " + m, x.likes(11, m, 9 - m), m);
        due.is("the first family's", x.likes(0, 9, 0), 5);
        due.sentence(9, "LIKES of a FAMILY of a MEAL become v: what they were. BAD.");
        due.is("10 is refused", x.likes(0, 9, 10), Due.BAD);
        due.is("-1 is refused", x.likes(0, 9, -1), Due.BAD);
        due.is("so they stay", x.likes(0, 9, 9), 0);
    }

    private static void lay() {
        DinnerBoxes x = new DinnerBoxes();
        Kitchens.families(x, 2);
        x.sheet(0, 16);
        due.sentence(10, "as many as there are of both");
        due.is("no meals", x.lay(0, 0), 0);
        Kitchens.meals(x, 9);
        for (int p = 0; p < 16; p++) x.mark(0, p, p % 10);
        due.is("9 meals, 16 places", x.lay(0, 0), 9);
        x.meal(0, 0);
        due.is("the tenth meal came later", x.likes(0, 9, 5), 5);
        due.is("10 meals, 16 places", x.lay(0, 0), 10);
        due.is("the tenth meal", x.likes(0, 9, 5), 9);
        due.is("the other family", x.likes(1, 9, 5), 5);
        due.is("sheet 1 is missing", x.lay(0, 1), Due.NOTHING);
        x.sheet(1, 0);
        due.is("10 meals, no places", x.lay(0, 1), 0);
        x.sheet(1, 1);
        due.is("10 meals, 1 place", x.lay(0, 1), 1);
        due.is("meal 0", x.likes(0, 0, 5), 0);
        due.is("meal 1", x.likes(0, 1, 5), 1);
        due.sentence(10, "(not 0 .. 9 is left out)");
        int[] v = {-1, 0, 9, 10, 32767, -32768, 65536 + 7, 5};
        x.sheet(1, 8);
        for (int p = 0; p < 8; p++) x.mark(1, p, v[p]);
        for (int m = 0; m < 8; m++) x.likes(1, m, 3);
        due.is("four of them", x.lay(1, 1), 4);
        int[] want = {3, 0, 9, 3, 3, 3, 7, 5};
        for (int m = 0; m < 8; m++) due.is("meal " + m, x.likes(1, m, 5), want[m]);
        due.sentence(10, "NOTHING: a SHEET is MISSING");
        DinnerBoxes y = Kitchens.of(0, 1, 1);
        due.is("missing", y.lay(0, 1), Due.NOTHING);
        due.is("missing, no family", y.lay(1, 1), Due.BAD);
        due.is("no sheet", y.lay(0, 2), Due.BAD);
    }

    private static void may() {
        DinnerBoxes x = new DinnerBoxes();
        x.part(1, 100, 1);
        x.part(128, 100, 1);
        int[] kinds = {0, 1, 2, 3, 2};
        for (int m = 0; m < 5; m++) x.meal(kinds[m], 0);
        x.with(1, 0, 1);
        x.with(2, 0, 1);
        x.with(2, 1, 1);
        x.with(3, 1, 1);
        x.family(0, 1);
        x.family(255, 1);
        x.family(1, 1);
        x.family(128, 1);
        x.family(126, 1);
        x.family(0, 10001);
        x.family(1, 10001);
        due.sentence(11, "A FAMILY MAY eat a MEAL if it has none of what is BARRED, and is GREEN if it eats GREEN alone.");
        int[][] may = {{1, 1, 1, 1, 1}, {1, 0, 0, 0, 1}, {1, 0, 0, 1, 1}, {1, 1, 0, 0, 1}, {1, 1, 1, 1, 1}, {0, 0, 1, 1, 1}, {0, 0, 0, 1, 1}};
        for (int f = 0; f < 7; f++) for (int m = 0; m < 5; m++) due.is("family " + f + ", meal " + m, x.may(f, m), may[f][m]);
    }

    private static void choices() {
        DinnerBoxes x = Kitchens.of(0, 10, 12);
        x.menu(1023);
        due.sentence(12, "or SKIPPED, or none (at first)");
        due.is("at first", x.choose(11, 513), 0);
        due.sentence(12, "(bits of MEALS; 0: none; -1: SKIPPED): what it was (likewise)");
        due.is("was two, the first and the last", x.choose(11, -1), 513);
        due.is("was skipped", x.choose(11, 0), -1);
        due.is("was none", x.choose(11, 512), 0);
        due.is("was one", x.choose(11, 512), 512);
        due.is("was the same", x.choose(11, 0), 512);
        due.is("the first family", x.choose(0, 0), 0);
        due.sentence(12, "up to 2 MEALS of THE MENU that it MAY eat");
        due.is("none", x.choose(0, 0), 0);
        due.is("one", x.choose(0, 1), 0);
        due.is("two", x.choose(0, 3), 1);
        due.is("three", x.choose(0, 7), Due.BAD);
        due.is("all ten", x.choose(0, 1023), Due.BAD);
        due.is("still two", x.choose(0, 3), 3);
    }

    private static void wrongChoices() {
        DinnerBoxes x = new DinnerBoxes();
        x.part(16, 100, 1);
        for (int m = 0; m < 4; m++) x.meal(m == 3 ? 0 : 2, m);
        x.with(1, 0, 1);
        x.family(16, 10001);
        due.sentence(12, "BAD: not of THE MENU, more than 2, one that it MAY not eat");
        due.is("no menu", x.choose(0, 1), Due.BAD);
        due.is("no menu, none", x.choose(0, 0), 0);
        due.is("no menu, skipped", x.choose(0, -1), 0);
        x.menu(14);
        due.is("not of the menu", x.choose(0, 1), Due.BAD);
        due.is("one of the menu, one not", x.choose(0, 5), Due.BAD);
        due.is("barred", x.choose(0, 2), Due.BAD);
        due.is("one barred", x.choose(0, 6), Due.BAD);
        due.is("not green", x.choose(0, 8), Due.BAD);
        due.is("one not green", x.choose(0, 12), Due.BAD);
        due.is("right", x.choose(0, 4), 0);
        int[] bits = {16, 20, 1 << 10, 1 << 30, 4 | 1 << 30, Integer.MAX_VALUE, Integer.MIN_VALUE, 4 | Integer.MIN_VALUE, -2, -3, -4};
        for (int b : bits) due.is("bits " + b, x.choose(0, b), Due.BAD);
        due.is("still the right one", x.choose(0, 4), 4);
        DinnerBoxes y = new DinnerBoxes();
        y.part(1, 100, 1);
        Kitchens.meals(y, 10);
        y.with(0, 0, 1);
        y.with(9, 0, 1);
        y.family(1, 1);
        y.menu(1023);
        due.is("the first meal barred", y.choose(0, 1), Due.BAD);
        due.is("the last meal barred", y.choose(0, 512), Due.BAD);
        due.is("both barred", y.choose(0, 513), Due.BAD);
        due.is("the others", y.choose(0, 258), 0);
        due.sentence(12, "FAMILIES, 12 at most, numbered from 0");
        for (int f : new int[] {1, -1, Integer.MIN_VALUE, Integer.MAX_VALUE}) {
            for (int c : new int[] {258, 1, 1024, 0, -1, -2}) due.is("family " + f + ", choice " + c, y.choose(f, c), Due.BAD);
        }
        Kitchens.families(y, 11);
        due.is("family 12", y.choose(12, 258), Due.BAD);
        due.is("family 11", y.choose(11, 258), 0);
        due.is("pack", x.pack(1), 0);
        due.sentence(12, "NO: TODAY is PACKED");
        for (int c : new int[] {4, 0, -1}) due.is("choice " + c, x.choose(0, c), Due.NO);
        due.sentence(12, "of several the one that stands first with it");
        for (int c : new int[] {1, 2, 8, 14, -2}) due.is("packed and bad " + c, x.choose(0, c), Due.BAD);
        due.is("packed, no family", x.choose(1, 0), Due.BAD);
    }

    private static void choicesByWeek() {
        DinnerBoxes x = Kitchens.of(0, 3, 3);
        x.menu(7);
        due.sentence(12, "A FAMILY's CHOICE for TODAY");
        x.choose(0, 4);
        x.choose(1, -1);
        x.end();
        due.is("none in a new week", x.choose(0, 0), 0);
        due.is("not skipped in a new week", x.choose(1, 0), 0);
        x.menu(7);
        x.choose(0, 4);
        x.choose(1, -1);
        x.pack(1);
        x.end();
        due.is("none behind a packed week", x.choose(0, 0), 0);
        due.is("not skipped behind a packed week", x.choose(1, 0), 0);
    }

    private static void filled() {
        DinnerBoxes x = Kitchens.of(0, 4, 1);
        due.sentence(13, "none, or fewer than 2: FILLED up to 2 by GUESS");
        due.is("no menu", x.box(0, 0), 0);
        int[][] menus = {{1, 1}, {8, 8}, {3, 3}, {9, 9}, {7, 3}, {15, 3}};
        for (int[] m : menus) {
            x.menu(m[0]);
            due.is("menu " + m[0], x.box(0, 0), m[1]);
        }
        due.sentence(13, "BOX of a FAMILY in a WEEK: its CHOICE");
        int[][] choices = {{1, 3}, {2, 3}, {4, 5}, {8, 9}, {12, 12}, {0, 3}};
        for (int[] c : choices) {
            x.choose(0, c[0]);
            due.is("choice " + c[0], x.box(0, 0), c[1]);
        }
        x.menu(4);
        x.choose(0, 4);
        due.is("one chosen, no other in the menu", x.box(0, 0), 4);
        due.sentence(13, "SKIPPED: nothing");
        x.menu(15);
        x.choose(0, -1);
        due.is("skipped", x.box(0, 0), 0);
        due.sentence(13, "MEALS of THE MENU that it MAY eat and has not in it yet");
        DinnerBoxes y = new DinnerBoxes();
        y.part(2, 100, 1);
        for (int m = 0; m < 4; m++) y.meal(m == 2 ? 3 : 1, m);
        y.with(1, 0, 1);
        y.with(3, 0, 1);
        y.family(2, 1);
        y.family(2, 10001);
        y.family(0, 10001);
        y.menu(15);
        due.is("those without what is barred", y.box(0, 0), 5);
        due.is("the one that is green", y.box(1, 0), 4);
        y.menu(11);
        due.is("one only", y.box(0, 0), 1);
        due.is("none that is green", y.box(1, 0), 0);
        due.is("none that is green, nothing barred", y.box(2, 0), 0);
    }

    private static void guessed() {
        DinnerBoxes x = Kitchens.of(0, 4, 1);
        due.sentence(13, "then those with more LIKES, of several the lesser number");
        x.menu(15);
        int[][] rows = {{0, 0, 0, 0, 3}, {9, 9, 9, 9, 3}, {0, 0, 0, 1, 9}, {8, 8, 8, 9, 9}, {0, 0, 1, 1, 12}, {8, 9, 8, 8, 3}, {8, 8, 9, 8, 5},
            {0, 1, 2, 1, 6}, {5, 6, 4, 6, 10}, {9, 0, 0, 9, 9}, {1, 0, 0, 0, 3}};
        for (int[] r : rows) {
            for (int m = 0; m < 4; m++) x.likes(0, m, r[m]);
            due.is("likes " + r[0] + r[1] + r[2] + r[3], x.box(0, 0), r[4]);
        }
        x.choose(0, 4);
        due.is("beside the choice", x.box(0, 0), 5);
    }

    private static void weekAhead() {
        DinnerBoxes x = Kitchens.of(0, 4, 3);
        for (int f = 0; f < 3; f++) {
            x.likes(f, 0, 9);
            x.likes(f, 1, 8);
            x.likes(f, 2, 0);
            x.likes(f, 3, 0);
        }
        due.sentence(13, "that were not in its BOX of the WEEK ahead first");
        x.menu(15);
        due.is("no week ahead of week 0", x.box(0, 0), 3);
        x.choose(1, -1);
        x.pack(1);
        x.end();
        x.menu(15);
        due.is("likes 0 go ahead of likes 9", x.box(0, 1), 12);
        due.is("skipped in the week ahead", x.box(1, 1), 3);
        x.menu(7);
        due.is("one is new, then the liked", x.box(0, 1), 5);
        x.menu(3);
        due.is("none is new", x.box(0, 1), 3);
        x.menu(2);
        due.is("the only one was there", x.box(0, 1), 2);
        x.likes(0, 1, 0);
        due.is("the only one was there, and is liked 0", x.box(0, 1), 2);
        x.likes(0, 1, 8);
        x.menu(7);
        x.choose(0, 2);
        due.is("what was there may be chosen", x.box(0, 1), 6);
        x.choose(0, 3);
        x.choose(1, -1);
        x.choose(2, 6);
        x.pack(1);
        x.end();
        x.menu(15);
        due.is("twice in a row", x.box(0, 2), 12);
        due.is("twice skipped", x.box(1, 2), 3);
        due.is("its own box, not another's", x.box(2, 2), 9);
        x.end();
        x.menu(15);
        due.is("a week ahead that was not packed had none", x.box(0, 3), 3);
    }

    private static void boxesOfWeeksAhead() {
        DinnerBoxes x = new DinnerBoxes();
        x.part(1, 100, 1);
        Kitchens.meals(x, 3);
        x.family(1, 1);
        x.menu(7);
        x.pack(1);
        x.end();
        due.sentence(13, "(A BOX of a WEEK ahead of TODAY is as it was when that WEEK ended.)");
        x.likes(0, 2, 9);
        x.with(0, 0, 1);
        x.menu(4);
        due.is("other likes, other parts, another menu", x.box(0, 0), 3);
        due.is("today's", x.box(0, 1), 4);
        x.family(0, 1);
        due.is("a family that came later", x.box(1, 0), 0);
        due.sentence(13, "if it was not PACKED, its BOXES are none (not even FILLED)");
        x.choose(0, 4);
        x.end();
        due.is("not packed, though chosen", x.box(0, 1), 0);
        due.is("not packed, filled", x.box(1, 1), 0);
        due.sentence(13, "BOX of a FAMILY in a WEEK (0 .. TODAY), as bits.");
        for (int w = 2; w < 99; w++) x.end();
        x.menu(4);
        due.is("week 99", x.box(0, 99), 4);
        due.is("week 100", x.box(0, 100), Due.BAD);
        due.is("week 98", x.box(0, 98), 0);
        due.is("week 0", x.box(0, 0), 3);
    }

    private static void packedBoxes() {
        DinnerBoxes x = Kitchens.of(0, 3, 1);
        x.menu(7);
        x.pack(1);
        due.sentence(13, "Then the WEEK's BOXES stay as they are.");
        x.likes(0, 2, 9);
        due.is("other likes", x.box(0, 0), 3);
        due.is("another menu is refused", x.menu(4), Due.NO);
        due.is("another choice is refused", x.choose(0, 4), Due.NO);
        due.is("as it was", x.box(0, 0), 3);
        x.family(0, 1);
        due.is("a family that comes then has none", x.box(1, 0), 0);
    }

    private static void ice() {
        DinnerBoxes x = new DinnerBoxes();
        Kitchens.parts(x, 10);
        x.meal(3, 0);
        x.meal(2, 1);
        x.meal(0, 2);
        x.meal(1, 3);
        for (int p = 0; p < 10; p++) x.with(p / 5, p, 999);
        x.family(0, 9996);
        x.menu(3);
        due.sentence(14, "without a LAW none is MARKED, ICE is 0");
        due.is("without", x.ice(0), 0);
        due.sentence(14, "ICE of a BOX that is not empty: what E of ice gives, 0 .. 9999");
        String[] texts = {"0", "1", "9998", "9999", "10000", "99999", "0-1", "99999*2", "32768*65536", "32768*65536-1"};
        int[] want = {0, 1, 9998, 9999, 9999, 9999, 0, 9999, 0, 9999};
        for (int i = 0; i < texts.length; i++) {
            Due.law(x, "mark 1 ice " + texts[i]);
            due.is("ice " + texts[i], x.ice(0), want[i]);
        }
        due.sentence(14, "g grams of all, times PORTIONS");
        Due.law(x, "mark 1 ice g/10");
        due.is("the most grams", x.ice(0), 5994);
        Due.law(x, "mark 1 ice g-50000");
        due.is("the most grams less 50000", x.ice(0), 9940);
        due.sentence(14, "r whether some MEAL in it is RAW (1, 0)");
        Due.law(x, "mark 1 ice r");
        due.is("one of two", x.ice(0), 1);
        int[] raw = {1, 0, 0, 0};
        for (int m = 0; m < 4; m++) {
            x.menu(1 << m);
            due.is("kind of meal " + m, x.ice(0), raw[m]);
        }
        x.menu(5);
        due.is("the other one of two", x.ice(0), 1);
        Due.law(x, "mark 1 ice 5+r");
        due.is("raw adds 1", x.ice(0), 6);
        x.menu(2);
        due.is("not raw adds 0", x.ice(0), 5);
        x.menu(5);
        due.sentence(14, "(0 if that is empty)");
        Due.law(x, "mark 1 ice 77");
        x.choose(0, -1);
        due.is("skipped", x.ice(0), 0);
        x.menu(4);
        due.is("a box of a meal without parts is not empty", x.ice(0), 77);
        x.menu(0);
        due.is("no menu", x.ice(0), 0);
        due.sentence(14, "h HEAT of the WEEK (0 .. 60; 20 at first)");
        x.menu(1);
        Due.law(x, "mark 1 ice h");
        due.is("at first", x.ice(0), 20);
        x.heat(60);
        due.is("60", x.ice(0), 60);
        x.heat(0);
        due.is("0", x.ice(0), 0);
    }
}
