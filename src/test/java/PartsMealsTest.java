/** Promises 1 to 7. */
public final class PartsMealsTest {
    private static final Due due = new Due();

    public static void main(String[] args) {
        newObject();
        parts();
        unlike();
        meals();
        with();
        about();
        due.end();
    }

    private static void newObject() {
        DinnerBoxes x = new DinnerBoxes();
        for (int what = 0; what <= 8; what++) due.is("new: count " + what, x.count(what), 0);
        due.is("new: back", x.back(), Due.NO);
        due.is("new: about", x.about(0, 0), Due.BAD);
        due.is("new: heat", x.heat(3), 20);
        due.is("new: shifts 0", x.shifts(0), 0);
        due.is("new: shifts 1", x.shifts(1), 0);
        due.is("new: plan", x.plan(1), 0);
        due.is("new: best", x.best(1, 1), Due.NO);
        due.is("new: lay", x.lay(0, 0), Due.BAD);
        due.is("new: mark", x.mark(0, 0, 0), Due.NOTHING);
    }

    private static void parts() {
        DinnerBoxes x = new DinnerBoxes();
        int[][] bad = {{-1, 100, 1}, {256, 100, 1}, {0, 99, 1}, {0, -100, 1}, {0, 100000, 1}, {0, 140, 1}, {0, 106, 1},
            {0, 100, 0}, {0, 100, 21}, {0, Integer.MIN_VALUE, 1}, {0, Integer.MAX_VALUE, 1}, {0, 199, 1}, {0, -12345, 1}};
        for (int[] b : bad) due.is("part bad " + b[0] + " " + b[1] + " " + b[2], x.part(b[0], b[1], b[2]), Due.BAD);
        due.is("no parts yet", x.count(0), 0);
        due.is("part least", x.part(0, 100, 1), 0);
        due.is("part most", x.part(255, 99935, 20), 1);
        for (int p = 2; p < 14; p++) due.is("part " + p, x.part(0, 100, 1), p);
        due.is("part 15th", x.part(0, 100, 1), Due.FULL);
        due.is("part 15th bad", x.part(0, 0, 1), Due.BAD);
        due.is("14 parts", x.count(0), 14);
    }

    private static void unlike() {
        DinnerBoxes x = new DinnerBoxes();
        x.part(0, 100, 1);
        x.part(0, 100, 1);
        x.part(0, 100, 1);
        due.is("unlike at first", x.unlike(0, 1, 99), 50);
        due.is("unlike both ways", x.unlike(1, 0, 1), 99);
        due.is("unlike again", x.unlike(0, 1, 7), 1);
        due.is("unlike of others", x.unlike(0, 2, 7), 50);
        due.is("unlike itself", x.unlike(1, 1, 7), Due.BAD);
        due.is("unlike 0", x.unlike(0, 1, 0), Due.BAD);
        due.is("unlike 100", x.unlike(0, 1, 100), Due.BAD);
        due.is("unlike none", x.unlike(0, 3, 5), Due.BAD);
        due.is("unlike below", x.unlike(-1, 0, 5), Due.BAD);
        due.is("unlike stays", x.unlike(0, 1, 7), 7);
    }

    private static void meals() {
        DinnerBoxes x = new DinnerBoxes();
        due.is("meal kind -1", x.meal(-1, 0), Due.BAD);
        due.is("meal kind 4", x.meal(4, 0), Due.BAD);
        due.is("meal taste -1", x.meal(0, -1), Due.BAD);
        due.is("meal taste 16", x.meal(0, 16), Due.BAD);
        for (int m = 0; m < 10; m++) due.is("meal " + m, x.meal(m % 4, m == 9 ? 15 : 0), m);
        due.is("meal 11th", x.meal(0, 0), Due.FULL);
        due.is("meal 11th bad", x.meal(0, 16), Due.BAD);
        int[][] of = {{1, 0, 0, 0}, {1, 1, 0, 0}, {1, 0, 1, 0}, {1, 0, 1, 1}};
        for (int m = 0; m < 4; m++) for (int k = 0; k < 4; k++) due.is("isOf " + m + " " + k, x.isOf(m, k), of[m][k]);
        due.is("isOf kind 4", x.isOf(0, 4), Due.BAD);
        due.is("isOf kind -1", x.isOf(0, -1), Due.BAD);
        due.is("isOf no meal", x.isOf(10, 0), Due.BAD);
        due.is("isOf meal -1", x.isOf(-1, 0), Due.BAD);
    }

    private static void with() {
        DinnerBoxes x = new DinnerBoxes();
        for (int p = 0; p < 7; p++) x.part(0, 10000, 1);
        x.meal(0, 0);
        x.meal(0, 1);
        due.is("with grams 0", x.with(0, 0, 0), Due.BAD);
        due.is("with grams 1000", x.with(0, 0, 1000), Due.BAD);
        due.is("with no meal", x.with(2, 0, 1), Due.BAD);
        due.is("with no part", x.with(0, 7, 1), Due.BAD);
        due.is("with below", x.with(-1, -1, 1), Due.BAD);
        for (int p = 0; p < 5; p++) due.is("with " + p, x.with(0, 6 - p, 999), p + 1);
        due.is("with 6th", x.with(0, 0, 1), Due.FULL);
        due.is("with anew", x.with(0, 6, 1), 5);
        due.is("grams anew", x.about(0, 5), 4 * 999 + 1);
        x.menu(1);
        due.is("with in menu", x.with(0, 6, 1), Due.NO);
        due.is("with in menu, 6th", x.with(0, 0, 1), Due.NO);
        due.is("with in menu, bad", x.with(0, 6, 0), Due.BAD);
        due.is("with not in menu", x.with(1, 0, 1), 1);
        x.end();
        due.is("with in the next week", x.with(0, 6, 2), 5);
    }

    private static void about() {
        DinnerBoxes x = new DinnerBoxes();
        x.part(5, 19900, 1);
        x.part(6, 15000, 1);
        x.part(128, 100, 1);
        x.meal(3, 7);
        int[] empty = {3, 7, 0, 0, 0, 0, 0};
        for (int what = 0; what < 7; what++) due.is("about empty " + what, x.about(0, what), empty[what]);
        x.with(0, 0, 33);
        x.with(0, 1, 1);
        x.with(0, 2, 99);
        int[] whole = {3, 7, 135, 65 + 1 + 0, 3, 133, 0};
        for (int what = 0; what < 7; what++) due.is("about " + what, x.about(0, what), whole[what]);
        due.is("about 7", x.about(0, 7), Due.BAD);
        due.is("about -1", x.about(0, -1), Due.BAD);
        due.is("about no meal", x.about(1, 0), Due.BAD);
        due.is("about meal -1", x.about(-1, 0), Due.BAD);
    }
}
