/** Promises 19 to 21. */
public final class MenusTest {
    private static final Due due = new Due();

    public static void main(String[] args) {
        menu();
        kept();
        best();
        tries();
        none();
        due.end();
    }

    private static void menu() {
        DinnerBoxes x = new DinnerBoxes();
        due.is("menu of no meals", x.menu(1), Due.BAD);
        due.is("menu of nothing", x.menu(0), 0);
        for (int m = 0; m < 10; m++) x.meal(0, m);
        due.is("menu of all", x.menu(1023), 10);
        due.is("menu too many", x.menu(1024), Due.BAD);
        due.is("menu -1", x.menu(-1), Due.BAD);
        due.is("menu least", x.menu(Integer.MIN_VALUE), Due.BAD);
        due.is("menu stays", x.count(4), 10);
        x.pack(1);
        due.is("menu packed", x.menu(1), Due.NO);
        due.is("menu packed bad", x.menu(1024), Due.BAD);
        x.end();
        due.is("menu of the next week", x.count(4), 0);
        due.is("menu anew", x.menu(512), 1);
    }

    private static void kept() {
        DinnerBoxes x = new DinnerBoxes();
        x.part(1, 10000, 1);
        for (int m = 0; m < 5; m++) x.meal(m == 0 ? 3 : 0, m);
        x.with(1, 0, 10);
        x.family(0, 1);
        x.family(1, 1);
        x.family(0, 10001);
        due.is("kept one", x.kept(1), 3);
        due.is("kept barred", x.kept(2), 1);
        due.is("kept two", x.kept(3), 1);
        due.is("kept three", x.kept(7), 2);
        x.likes(0, 0, 4);
        due.is("kept liked less", x.kept(3), 0);
        due.is("kept one liked less", x.kept(1), 2);
        due.is("kept four", x.kept(15), 2);
        due.is("kept five", x.kept(31), Due.BAD);
        due.is("kept none", x.kept(0), Due.BAD);
        due.is("kept no meal", x.kept(32), Due.BAD);
        due.is("kept -1", x.kept(-1), Due.BAD);
    }

    private static void best() {
        DinnerBoxes x = new DinnerBoxes();
        x.part(1, 10000, 1);
        x.part(0, 10000, 1);
        int[] kinds = {0, 2, 3, 1, 2, 0}, tastes = {0, 1, 2, 3, 1, 5}, parts = {1, 1, 1, 0, 1, 1}, grams = {10, 20, 30, 5, 20, 10};
        for (int m = 0; m < 6; m++) {
            x.meal(kinds[m], tastes[m]);
            x.with(m, parts[m], grams[m]);
        }
        x.family(1, 1);
        x.family(0, 1);
        due.is("best 1: cheapest green, the first", x.best(1, 2000), 2);
        due.is("best 2: cheapest, the first", x.best(2, 2000), 3);
        due.is("best 3: the cheap one that one family may not eat", x.best(3, 2000), 11);
        due.is("best 4: the most kept, then cheapest", x.best(4, 2000), 43);
        x.likes(0, 1, 4);
        due.is("best 1: the most kept", x.best(1, 2000), 16);
        x.likes(0, 4, 0);
        due.is("best 1: the most kept, though dearer", x.best(1, 2000), 4);
        x.likes(0, 4, 5);
        x.family(0, 10001);
        due.is("best 2: two greens keep the green", x.best(2, 2000), 20);
        due.is("best n 0", x.best(0, 2000), Due.BAD);
        due.is("best n 5", x.best(5, 2000), Due.BAD);
        due.is("best tries 0", x.best(1, 0), Due.BAD);
        due.is("best tries 2001", x.best(1, 2001), Due.BAD);
    }

    private static void tries() {
        DinnerBoxes x = new DinnerBoxes();
        for (int m = 0; m < 10; m++) x.meal(2, m);
        int[] due1 = {10, 55, 175, 385};
        for (int n = 1; n <= 4; n++) {
            due.is("tries suffice " + n, x.best(n, due1[n - 1]), (1 << n) - 1);
            due.is("tries spent " + n, x.best(n, due1[n - 1] - 1), Due.SPENT);
        }
        DinnerBoxes y = new DinnerBoxes();
        y.meal(2, 3);
        y.meal(1, 4);
        y.meal(3, 3);
        due.is("a taste twice is no try", y.best(2, 5), 3);
        due.is("a taste twice, spent", y.best(2, 4), Due.SPENT);
        due.is("what is not green is a try", y.best(1, 3), 1);
        due.is("what is not green is a try, spent", y.best(1, 2), Due.SPENT);
        due.is("too few left is a try", y.best(3, 5), Due.NO);
        due.is("too few left, spent", y.best(3, 4), Due.SPENT);
    }

    private static void none() {
        DinnerBoxes x = new DinnerBoxes();
        x.meal(0, 0);
        x.meal(1, 1);
        due.is("best without green", x.best(1, 2000), Due.NO);
        due.is("best without green, spent", x.best(1, 1), Due.SPENT);
        x.meal(2, 1);
        due.is("best without families", x.best(1, 2000), 4);
        due.is("best of three", x.best(3, 2000), Due.NO);
        DinnerBoxes y = new DinnerBoxes();
        y.part(0, 10000, 1);
        y.keep();
        y.meal(2, 0);
        due.is("the last try counts", y.best(1, 1), 1);
        y.with(0, 0, 2);
        y.meal(2, 1);
        y.with(1, 0, 1);
        due.is("the first one costs too", y.best(1, 2), 2);
        y.back();
        y.meal(0, 0);
        due.is("what was green is no more", y.best(1, 2), Due.NO);
    }
}
