/** Promises 25 to 27, 32 and 33. */
public final class PlanTest {
    private static final Due due = new Due();

    public static void main(String[] args) {
        wrongInputs();
        leastSorry();
        fewestSwaps();
        fewerSwapsLater();
        oneGram();
        allSwap();
        firstOfSeveral();
        whatMaySwap();
        tries();
        sharedParts();
        packBySwaps();
        numbers();
        checkRefused();
        due.end();
    }

    /** Parts 0 .. n - 1 of one sort, a meal of each alone, without families. */
    private static DinnerBoxes kitchen(int n) {
        DinnerBoxes x = new DinnerBoxes();
        for (int p = 0; p < n; p++) {
            x.part(0, 10000, 9);
            x.meal(0, p);
            x.with(p, p, 100);
        }
        return x;
    }

    private static void wrongInputs() {
        DinnerBoxes x = kitchen(2);
        x.family(0, 1);
        x.menu(1);
        int[] bad = {0, -1, 5001, Integer.MIN_VALUE, Integer.MAX_VALUE};
        for (int b : bad) {
            due.is("plan " + b, x.plan(b), Due.BAD);
            due.is("swap " + b, x.swap(b, 0), Due.BAD);
            due.is("pack " + b, x.pack(b), Due.BAD);
        }
        due.is("swap no family", x.swap(5000, 1), Due.BAD);
        due.is("swap family -1", x.swap(5000, -1), Due.BAD);
        due.is("plan: there is none", x.plan(5000), Due.NO);
        due.is("swap: there is none", x.swap(5000, 0), Due.NO);
        due.is("pack: there is none", x.pack(5000), Due.NO);
        due.is("not packed", x.count(5), 0);
        x.lot(0, 100);
        due.is("enough", x.plan(5000), 0);
        due.is("no swap", x.swap(5000, 0), Due.NONE);
        due.is("pack", x.pack(5000), 100);
        due.is("pack twice bad", x.pack(0), Due.BAD);
        due.is("pack twice", x.pack(5000), Due.NO);
        due.is("plan goes by what is left", x.plan(5000), Due.NO);
        x.lot(1, 100);
        due.is("plan behind the packing", x.plan(5000), 50);
    }

    private static void leastSorry() {
        DinnerBoxes x = kitchen(3);
        x.family(0, 1);
        x.family(0, 2);
        x.menu(1);
        x.lot(0, 250);
        x.lot(1, 1000);
        x.unlike(0, 1, 30);
        due.is("the lesser need goes", x.plan(5000), 30);
        due.is("family 0 goes", x.swap(5000, 0), 1);
        due.is("family 1 stays", x.swap(5000, 1), Due.NONE);
        x.lot(2, 200);
        x.unlike(0, 2, 14);
        due.is("now part 2", x.plan(5000), 14);
        x.unlike(2, 0, 99);
        due.is("part 1 again", x.swap(5000, 0), 1);
        x.unlike(0, 1, 99);
        x.unlike(0, 2, 98);
        due.is("and part 2", x.swap(5000, 0), 2);
    }

    private static void fewestSwaps() {
        DinnerBoxes x = new DinnerBoxes();
        for (int p = 0; p < 2; p++) x.part(0, 10000, 9);
        x.meal(0, 0);
        x.with(0, 0, 1);
        for (int f = 0; f < 3; f++) x.family(0, f < 2 ? 1 : 2);
        x.menu(1);
        x.lot(0, 2);
        x.lot(1, 9);
        x.unlike(0, 1, 49);
        // All swaps are sorry 0 (cut): two of one gram, or the last alone.
        due.is("sorry of 2 grams at 49", x.plan(5000), 0);
        due.is("the fewest: family 2", x.swap(5000, 2), 1);
        due.is("the fewest: not family 0", x.swap(5000, 0), Due.NONE);
        due.is("the fewest: not family 1", x.swap(5000, 1), Due.NONE);
        x.unlike(0, 1, 50);
        due.is("two grams at 50 are sorry", x.plan(5000), 0);
        due.is("so two swap: family 0", x.swap(5000, 0), 1);
        due.is("so two swap: family 1", x.swap(5000, 1), 1);
        due.is("so two swap: not family 2", x.swap(5000, 2), Due.NONE);
    }

    private static void fewerSwapsLater() {
        DinnerBoxes x = new DinnerBoxes();
        for (int p = 0; p < 2; p++) x.part(0, 10000, 9);
        x.meal(0, 0);
        x.with(0, 0, 1);
        for (int f = 0; f < 3; f++) x.family(0, f == 0 ? 2 : 1);
        x.menu(1);
        x.lot(0, 2);
        x.lot(1, 9);
        x.unlike(0, 1, 49);
        due.is("as sorry with fewer swaps", x.swap(5000, 0), 1);
        due.is("not family 1", x.swap(5000, 1), Due.NONE);
        due.is("not family 2", x.swap(5000, 2), Due.NONE);
        // Families 2, 1 and 2 behind it (THE PLAN), then 0 (THE PLAN), 1 and 2 behind it as swapped as that and more.
        due.is("so many tries", x.plan(6), 0);
        due.is("one less is spent", x.plan(5), Due.SPENT);
    }

    private static void oneGram() {
        DinnerBoxes x = new DinnerBoxes();
        for (int p = 0; p < 3; p++) x.part(0, 10000, 9);
        x.meal(0, 0);
        x.with(0, 0, 1);
        x.with(0, 1, 1);
        x.family(0, 1);
        x.menu(1);
        x.lot(1, 9);
        due.is("a gram that is needed does not come", x.plan(5000), Due.NO);
        x.lot(2, 1);
        due.is("another comes", x.swap(5000, 0), 2);
        due.is("picks of a gram", x.picks(0, 0, 0), 2);
        due.is("grams", x.pack(5000), 2);
        due.is("a gram is packed", x.stock(2, 3), 1);
        due.is("got a gram", x.recall(1), 1);
    }

    private static void allSwap() {
        DinnerBoxes x = kitchen(2);
        for (int f = 0; f < 12; f++) x.family(0, 1);
        x.menu(1);
        x.lot(1, 1200);
        due.is("all are sorry", x.plan(4095), 600);
        due.is("all are sorry, spent", x.plan(4094), Due.SPENT);
        for (int wrong = 36; wrong >= 0; wrong -= 9) {
            for (int i = 0; i < 36; i++) x.tell(i == wrong ? 5 : i % 3 == 0 ? i / 3 : i % 3 - 1);
            due.is("36 numbers, wrong at " + wrong, x.check(), wrong == 36 ? 0 : wrong + 1);
        }
        due.is("the most picks", x.shifts(0), 6);
        due.is("the least bits", x.shifts(1), 63);
        due.is("pack all", x.pack(4095), 1200);
        due.is("all got of it", x.recall(0), 4095);
    }

    private static void firstOfSeveral() {
        DinnerBoxes x = kitchen(4);
        for (int f = 0; f < 3; f++) x.family(0, 1);
        x.menu(1);
        x.lot(0, 200);
        x.lot(3, 300);
        x.lot(2, 300);
        due.is("sorry", x.plan(5000), 50);
        due.is("none ahead of all: 0", x.swap(5000, 0), Due.NONE);
        due.is("none ahead of all: 1", x.swap(5000, 1), Due.NONE);
        due.is("the last one, the lesser part", x.swap(5000, 2), 2);
        DinnerBoxes y = new DinnerBoxes();
        for (int p = 0; p < 4; p++) y.part(0, 10000, 9);
        y.meal(0, 0);
        y.with(0, 1, 100);
        y.with(0, 2, 100);
        y.family(0, 1);
        y.family(0, 1);
        y.menu(1);
        y.lot(1, 100);
        y.lot(2, 100);
        y.lot(0, 100);
        y.lot(3, 100);
        due.is("both swap", y.plan(5000), 100);
        due.is("the lesser goes first", y.swap(5000, 0), 100);
        due.is("the other one's", y.swap(5000, 1), 203);
    }

    private static void whatMaySwap() {
        DinnerBoxes x = new DinnerBoxes();
        x.part(0, 10000, 9);
        x.part(0, 10001, 9);
        x.part(8, 10000, 9);
        x.part(0, 10000, 9);
        x.part(0, 10030, 9);
        x.meal(0, 0);
        x.with(0, 0, 100);
        x.with(0, 3, 100);
        x.family(8, 1);
        x.menu(1);
        for (int p = 1; p < 4; p++) x.lot(p, 999);
        due.is("another sort, barred, needed otherwise", x.plan(5000), Due.NO);
        x.lot(4, 99);
        due.is("too little", x.plan(5000), Due.NO);
        x.lot(4, 1);
        due.is("just enough, another station", x.plan(5000), 50);
        due.is("what comes", x.swap(5000, 0), 4);
        x.choose(0, -1);
        due.is("an empty box needs nothing", x.plan(1), 0);
        due.is("an empty box has no swap", x.swap(1, 0), Due.NONE);
    }

    private static void tries() {
        DinnerBoxes x = kitchen(3);
        for (int f = 0; f < 2; f++) x.family(0, 1);
        x.menu(1);
        // Short: nothing first; family 1 two swaps, then family 0 two, each with nothing and two behind: 2 + 2 * 3.
        due.is("no stock: all are tried", x.plan(8), Due.NO);
        due.is("no stock: spent", x.plan(7), Due.SPENT);
        due.is("swap spent", x.swap(7, 0), Due.SPENT);
        due.is("pack spent", x.pack(7), Due.SPENT);
        due.is("not packed", x.count(5), 0);
        x.lot(0, 200);
        // Nothing is THE PLAN; each swap is put once and goes no further.
        due.is("enough: each swap once", x.plan(4), 0);
        due.is("enough: spent", x.plan(3), Due.SPENT);
        x.recall(0);
        x.lot(0, 100);
        x.lot(1, 100);
        // Family 1 for part 1 is THE PLAN (try 1), part 2 (2) is as sorry; so are family 0's (3, 4).
        due.is("one short: as sorry goes no further", x.plan(4), 50);
        due.is("one short: spent", x.plan(3), Due.SPENT);
        x.unlike(0, 2, 49);
        x.lot(2, 100);
        // Now 1 (THE PLAN 50), 2 (THE PLAN 49), family 0: part 1 is more (3), part 2 as sorry (4).
        due.is("better is found", x.plan(4), 49);
        due.is("packed in just so many", x.pack(4), 200);
    }

    private static void sharedParts() {
        DinnerBoxes x = new DinnerBoxes();
        for (int p = 0; p < 3; p++) x.part(0, 10000, 9);
        x.meal(0, 0);
        x.meal(0, 1);
        x.with(0, 0, 33);
        x.with(1, 0, 66);
        x.with(1, 1, 5);
        x.family(0, 3);
        x.menu(3);
        x.lot(1, 15);
        x.lot(2, 297);
        x.unlike(0, 2, 99);
        due.is("all of it, in whichever meals", x.plan(5000), 297 * 99 / 100);
        due.is("the swap", x.swap(5000, 0), 2);
        due.is("needs are by the box", x.stock(0, 1), 297);
        due.is("grams in all", x.pack(5000), 312);
        due.is("packed of part 2", x.stock(2, 3), 297);
        due.is("packed of part 0", x.stock(0, 3), 0);
        due.is("needs stay by the box", x.stock(0, 1), 297);
    }

    private static void packBySwaps() {
        DinnerBoxes x = kitchen(3);
        x.family(0, 1);
        x.family(0, 1);
        x.family(0, 1);
        x.menu(3);
        x.choose(0, 1);
        x.choose(1, 2);
        x.choose(2, 2);
        x.menu(1);
        x.lot(0, 120);
        x.lot(2, 50);
        x.lot(1, 100);
        x.lot(2, 60);
        x.lot(0, 10);
        due.is("two swap", x.plan(5000), 100);
        due.is("grams", x.pack(5000), 300);
        due.is("lot 0 to family 0", x.recall(0), 1);
        due.is("lot 1 to family 2", x.recall(1), 4);
        due.is("lot 2 to family 1", x.recall(2), 2);
        due.is("lot 3 to family 2", x.recall(3), 4);
        due.is("lot 4 to nobody", x.recall(4), 0);
        due.is("thrown of 2", x.stock(2, 4), 10);
        due.is("thrown of 0", x.stock(0, 4), 30);
    }

    private static void numbers() {
        DinnerBoxes x = kitchen(3);
        due.is("check nothing", x.check(), 0);
        for (int i = 1; i <= 36; i++) due.is("tell " + i, x.tell(i), i);
        due.is("tell full", x.tell(1), Due.FULL);
        due.is("36 wait", x.count(7), 36);
        due.is("check one too many", x.check(), 1);
        due.is("none wait", x.count(7), 0);
        for (int f = 0; f < 12; f++) x.family(0, 1);
        x.menu(1);
        x.choose(3, -1);
        x.lot(1, 1100);
        x.unlike(0, 1, 1);
        x.lot(0, 900);
        int[] rows = {10, 0, 1, 11, 0, 1};
        for (int wrong = -1; wrong < 6; wrong++) {
            for (int i = 0; i < 6; i++) x.tell(i == wrong ? -7 : rows[i]);
            due.is("check wrong at " + wrong, x.check(), wrong < 0 ? 0 : 1 + wrong);
        }
        for (int many = 0; many < 6; many++) {
            for (int i = 0; i < many; i++) x.tell(rows[i]);
            due.is("check missing behind " + many, x.check(), 1 + many);
        }
        for (int i = 0; i < 6; i++) x.tell(rows[i]);
        x.tell(0);
        due.is("check one too many", x.check(), 7);
        for (int i = 0; i < 6; i++) x.tell(rows[i]);
        due.is("check right again", x.check(), 0);
    }

    private static void checkRefused() {
        DinnerBoxes x = kitchen(2);
        x.family(0, 1);
        x.menu(1);
        x.tell(0);
        due.is("check: there is none", x.check(), Due.NO);
        due.is("the numbers are gone", x.count(7), 0);
        DinnerBoxes y = kitchen(10);
        for (int f = 0; f < 12; f++) y.family(0, 1);
        y.menu(1);
        y.tell(0);
        due.is("check: spent", y.check(), Due.SPENT);
        due.is("the numbers are gone, spent", y.count(7), 0);
        due.is("plan: spent", y.plan(5000), Due.SPENT);
    }
}
