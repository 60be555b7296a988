/** Promises 8 to 14. */
public final class FamiliesTest {
    private static final Due due = new Due();

    public static void main(String[] args) {
        families();
        likes();
        lay();
        may();
        choose();
        guess();
        guessByTheWeekAhead();
        frozen();
        ice();
        due.end();
    }

    private static void families() {
        DinnerBoxes x = new DinnerBoxes();
        int[][] bad = {{-1, 1}, {256, 1}, {0, 0}, {0, 7}, {0, 10}, {0, 20001}, {0, -1}, {0, -9999}, {0, 9}, {0, Integer.MIN_VALUE}, {0, Integer.MAX_VALUE}};
        for (int[] b : bad) due.is("family bad " + b[0] + " " + b[1], x.family(b[0], b[1]), Due.BAD);
        due.is("family least", x.family(0, 1), 0);
        due.is("family most", x.family(255, 19996), 1);
        for (int f = 2; f < 12; f++) due.is("family " + f, x.family(0, 6), f);
        due.is("family 13th", x.family(0, 6), Due.FULL);
        due.is("family 13th bad", x.family(0, 7), Due.BAD);
    }

    private static void likes() {
        DinnerBoxes x = new DinnerBoxes();
        x.family(0, 1);
        x.meal(0, 0);
        due.is("likes at first", x.likes(0, 0, 0), 5);
        due.is("likes", x.likes(0, 0, 9), 0);
        due.is("likes 10", x.likes(0, 0, 10), Due.BAD);
        due.is("likes -1", x.likes(0, 0, -1), Due.BAD);
        due.is("likes no family", x.likes(1, 0, 1), Due.BAD);
        due.is("likes no meal", x.likes(0, 1, 1), Due.BAD);
        x.meal(0, 0);
        due.is("likes of a later meal", x.likes(0, 1, 1), 5);
        due.is("likes stay", x.likes(0, 0, 1), 9);
    }

    private static void lay() {
        DinnerBoxes x = new DinnerBoxes();
        x.family(0, 1);
        for (int m = 0; m < 4; m++) x.meal(0, m);
        due.is("lay missing", x.lay(0, 0), Due.NOTHING);
        due.is("lay no family", x.lay(1, 0), Due.BAD);
        due.is("lay sheet 2", x.lay(0, 2), Due.BAD);
        due.is("lay sheet -1", x.lay(0, -1), Due.BAD);
        x.sheet(0, 3);
        x.mark(0, 0, 10);
        x.mark(0, 1, 0);
        x.mark(0, 2, -1);
        due.is("lay leaves out", x.lay(0, 0), 1);
        due.is("lay 0", x.likes(0, 0, 5), 5);
        due.is("lay 1", x.likes(0, 1, 5), 0);
        due.is("lay 2", x.likes(0, 2, 5), 5);
        due.is("lay 3", x.likes(0, 3, 5), 5);
        x.sheet(1, 16);
        for (int p = 0; p < 16; p++) x.mark(1, p, 9);
        due.is("lay a long sheet", x.lay(0, 1), 4);
        due.is("lay last", x.likes(0, 3, 5), 9);
        x.meal(0, 4);
        due.is("lay not beyond the meals", x.likes(0, 4, 5), 5);
        x.sheet(1, 0);
        due.is("lay an empty sheet", x.lay(0, 1), 0);
    }

    private static void may() {
        DinnerBoxes x = new DinnerBoxes();
        x.part(4, 100, 1);
        for (int k = 0; k < 4; k++) x.meal(k, 0);
        x.with(2, 0, 1);
        x.family(4, 1);
        x.family(3, 10001);
        x.family(0, 1);
        int[][] may = {{1, 1, 0, 1}, {0, 0, 1, 1}, {1, 1, 1, 1}};
        for (int f = 0; f < 3; f++) for (int m = 0; m < 4; m++) due.is("may " + f + " " + m, x.may(f, m), may[f][m]);
        due.is("may no family", x.may(3, 0), Due.BAD);
        due.is("may no meal", x.may(0, 4), Due.BAD);
        due.is("may below", x.may(-1, 0), Due.BAD);
    }

    private static void choose() {
        DinnerBoxes x = new DinnerBoxes();
        x.part(4, 100, 1);
        for (int m = 0; m < 4; m++) x.meal(0, m);
        x.with(1, 0, 1);
        x.family(4, 1);
        due.is("choose without menu", x.choose(0, 1), Due.BAD);
        x.menu(15);
        due.is("choose", x.choose(0, 4), 0);
        due.is("choose two", x.choose(0, 9), 4);
        due.is("choose three", x.choose(0, 13), Due.BAD);
        due.is("choose barred", x.choose(0, 2), Due.BAD);
        due.is("choose barred beside", x.choose(0, 3), Due.BAD);
        x.family(0, 10001);
        due.is("choose what is not green", x.choose(1, 1), Due.BAD);
        due.is("choose -2", x.choose(0, -2), Due.BAD);
        due.is("choose no meal", x.choose(0, 16), Due.BAD);
        due.is("choose least", x.choose(0, Integer.MIN_VALUE), Due.BAD);
        due.is("choose no family", x.choose(2, 0), Due.BAD);
        due.is("choice stays", x.choose(0, -1), 9);
        due.is("box skipped", x.box(0, 0), 0);
        due.is("choose none", x.choose(0, 0), -1);
        due.is("box by guess", x.box(0, 0), 5);
        x.choose(0, 8);
        due.is("box filled", x.box(0, 0), 9);
        due.is("a new menu", x.menu(7), 3);
        due.is("choice is none", x.choose(0, 8), Due.BAD);
        due.is("choice was none", x.choose(0, 4), 0);
        x.lot(0, 100);
        x.pack(5000);
        due.is("choose packed", x.choose(0, 1), Due.NO);
        due.is("choose packed skip", x.choose(0, -1), Due.NO);
        due.is("choose packed bad", x.choose(0, 8), Due.BAD);
        x.end();
        due.is("choose in the next week", x.choose(0, -1), 0);
    }

    private static void guess() {
        DinnerBoxes x = new DinnerBoxes();
        for (int m = 0; m < 5; m++) x.meal(m == 4 ? 2 : 0, m);
        x.family(0, 1);
        x.family(0, 10001);
        x.menu(31);
        due.is("guess by number", x.box(0, 0), 3);
        due.is("guess green", x.box(1, 0), 16);
        x.likes(0, 3, 6);
        due.is("guess by likes", x.box(0, 0), 9);
        x.likes(0, 0, 4);
        due.is("guess less liked", x.box(0, 0), 10);
        x.likes(0, 2, 9);
        due.is("guess most liked", x.box(0, 0), 12);
        x.choose(0, 4);
        due.is("guess beside the choice", x.box(0, 0), 12);
        x.menu(4);
        due.is("guess one", x.box(0, 0), 4);
        x.menu(0);
        due.is("guess none", x.box(0, 0), 0);
        due.is("box week 1", x.box(0, 1), Due.BAD);
        due.is("box week -1", x.box(0, -1), Due.BAD);
        due.is("box no family", x.box(2, 0), Due.BAD);
    }

    private static void guessByTheWeekAhead() {
        DinnerBoxes x = new DinnerBoxes();
        for (int m = 0; m < 4; m++) x.meal(0, m);
        x.family(0, 1);
        x.likes(0, 0, 9);
        x.likes(0, 1, 8);
        x.likes(0, 3, 0);
        x.menu(15);
        due.is("pack nothing", x.pack(1), 0);
        x.end();
        x.menu(15);
        due.is("others first", x.box(0, 1), 12);
        x.menu(7);
        due.is("then the liked", x.box(0, 1), 5);
        x.end();
        due.is("a week that was not packed", x.box(0, 1), 0);
        due.is("a week that was packed", x.box(0, 0), 3);
        x.menu(15);
        due.is("the week ahead had none", x.box(0, 2), 3);
        x.family(0, 1);
        due.is("a family that was not there", x.box(1, 0), 0);
    }

    private static void frozen() {
        DinnerBoxes x = new DinnerBoxes();
        for (int m = 0; m < 3; m++) x.meal(0, m);
        x.family(0, 1);
        x.menu(7);
        x.pack(1);
        x.likes(0, 2, 9);
        due.is("packed box stays", x.box(0, 0), 3);
        x.family(0, 1);
        due.is("a family behind the packing", x.box(1, 0), 0);
        x.end();
        due.is("packed box is kept", x.box(0, 0), 3);
        due.is("no menu, no box", x.box(0, 1), 0);
    }

    private static void ice() {
        DinnerBoxes x = new DinnerBoxes();
        x.part(0, 100, 1);
        x.meal(0, 0);
        x.meal(3, 1);
        x.with(0, 0, 100);
        x.with(1, 0, 20);
        x.family(0, 9993);
        x.menu(3);
        due.is("ice without law", x.ice(0), 0);
        due.is("law g", Due.law(x, "mark 1 ice g"), 2);
        due.is("ice g", x.ice(0), 360);
        Due.law(x, "mark 1 ice m");
        due.is("ice m", x.ice(0), 999);
        Due.law(x, "mark 1 ice h");
        due.is("ice h", x.ice(0), 20);
        Due.law(x, "mark 1 ice r");
        due.is("ice r", x.ice(0), 1);
        x.menu(1);
        due.is("ice not raw", x.ice(0), 0);
        Due.law(x, "mark 1 ice 0-1");
        due.is("ice below 0", x.ice(0), 0);
        Due.law(x, "mark 1 ice 9999");
        due.is("ice most", x.ice(0), 9999);
        Due.law(x, "mark 1 ice 10000");
        due.is("ice beyond", x.ice(0), 9999);
        x.choose(0, -1);
        due.is("ice of an empty box", x.ice(0), 0);
        x.family(0, 19996);
        Due.law(x, "mark 1 ice m");
        x.meal(2, 2);
        x.menu(4);
        due.is("ice: miles of a green family", x.ice(1), 999);
        due.is("ice no family", x.ice(2), Due.BAD);
        due.is("ice below", x.ice(-1), Due.BAD);
    }
}
