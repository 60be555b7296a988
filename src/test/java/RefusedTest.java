import java.util.function.Supplier;

/**
 * Each refused call answers what stands first with it and changes nothing: the same kitchen is made twice, the call is
 * made in one of them, and then all that can be asked (also what is lost by asking) is asked of both.
 */
public final class RefusedTest {
    private static final String NOTHING_CHANGES = "A call that is refused answers one of BAD, NO, FULL, SPENT, or a FINDING, of several the one that stands first "
        + "with it, and changes nothing (but the tape and the numbers that wait, where told).";
    private static final Due due = new Due();

    public static void main(String[] args) {
        partsAndMeals();
        families();
        lawAndMenus();
        lots();
        shiftsAndImages();
        sheets();
        packed();
        full();
        nothingIsThere();
        usedUp();
        asking();
        due.named(2, 33);
        due.named(35, 39);
        due.end();
    }

    /** Week 1 of a kitchen with something of all: THE PLAN has one swap, and its rows wait; the tape has a law. */
    private static DinnerBoxes rich() {
        DinnerBoxes x = new DinnerBoxes();
        int[] how = {10000, 10010, 20020, 30031, 100, 235};
        for (int p = 0; p < 6; p++) x.part(p == 2 ? 4 : 0, how[p], p == 3 ? 2 : 9);
        int[] kinds = {2, 0, 3, 2};
        for (int m = 0; m < 4; m++) x.meal(kinds[m], m);
        int[][] with = {{0, 0, 100}, {0, 3, 50}, {1, 1, 30}, {2, 3, 10}, {3, 0, 1}, {3, 1, 2}, {3, 2, 3}, {3, 3, 4}, {3, 4, 5}};
        for (int[] w : with) x.with(w[0], w[1], w[2]);
        x.family(0, 2003);
        x.family(4, 12);
        x.family(0, 10001);
        Due.law(x, "mark g>20 ice g+m+h");
        for (int p = 0; p < 4; p++) x.lot(p, 1000);
        x.menu(7);
        x.choose(1, 2);
        x.pack(5000);
        x.end();
        x.unlike(0, 1, 20);
        x.likes(0, 1, 8);
        x.heat(33);
        x.menu(15);
        x.choose(2, 5);
        x.keep();
        x.menu(7);
        x.choose(0, 1);
        x.choose(1, -1);
        x.recall(0);
        x.lot(0, 350);
        x.sheet(0, 3);
        for (int p = 0; p < 3; p++) x.mark(0, p, 7 + p);
        Due.write(x, "mark 1 ice 5");
        for (int v : new int[] {2, 0, 1}) x.tell(v);
        return x;
    }

    private static DinnerBoxes richPacked() {
        DinnerBoxes x = rich();
        x.pack(5000);
        return x;
    }

    /** Part 0 is short, and nothing may come for it. */
    private static DinnerBoxes richShort() {
        DinnerBoxes x = rich();
        for (int l = 0; l < x.count(3); l++) x.recall(l);
        return x;
    }

    private static int[] some(int many) {
        if (many <= 4) {
            int[] all = new int[Math.max(0, many)];
            for (int i = 0; i < all.length; i++) all[i] = i;
            return all;
        }
        return new int[] {0, 1, 2, many - 1};
    }

    /** What can be asked without a change. */
    private static void look(DinnerBoxes x, StringBuilder all) {
        for (int what = 0; what <= 8; what++) all.append(' ').append(x.count(what));
        all.append(" parts");
        for (int p : some(x.count(0))) for (int what = 0; what <= 4; what++) all.append(' ').append(x.stock(p, what));
        all.append(" meals");
        for (int m : some(x.count(1))) for (int what = 0; what <= 6; what++) all.append(' ').append(x.about(m, what));
        all.append(" families");
        for (int f : some(x.count(2))) {
            for (int m : some(x.count(1))) all.append(' ').append(x.may(f, m));
            for (int w : some(x.count(6) + 1)) all.append(' ').append(x.box(f, w));
            all.append(' ').append(x.ice(f)).append(' ').append(x.swap(5000, f));
        }
        all.append(" lots");
        for (int l : some(x.count(3))) for (int what = 0; what <= 3; what++) all.append(' ').append(x.told(l, what));
        all.append(" menus ").append(x.best(1, 2000)).append(' ').append(x.best(2, 2000)).append(' ').append(x.kept(1));
        all.append(" plan ").append(x.plan(5000)).append(" shifts ").append(x.shifts(0)).append(' ').append(x.shifts(1));
        for (int s = 0; s < 4; s++) all.append(' ').append(x.picks(s, 1, 1));
    }

    /** All that can be asked, with what is lost by it last. */
    private static String everything(DinnerBoxes x) {
        StringBuilder all = new StringBuilder();
        look(x, all);
        all.append(" check ").append(x.check()).append(" law ").append(x.law()).append(" heat ").append(x.heat(1));
        for (int m : some(x.count(1))) all.append(' ').append(x.about(m, 6));
        for (int f : some(x.count(2))) all.append(' ').append(x.ice(f));
        all.append(" unlike");
        for (int one : some(x.count(0))) for (int other : some(x.count(0))) if (one < other) all.append(' ').append(x.unlike(one, other, 50));
        all.append(" likes");
        for (int f : some(x.count(2))) for (int m : some(x.count(1))) all.append(' ').append(x.likes(f, m, 5));
        all.append(" choices");
        for (int f : some(x.count(2))) all.append(' ').append(x.choose(f, 0));
        all.append(" sheets");
        for (int s = 0; s < 2; s++) for (int p : new int[] {0, 1, 2, 3, 15, 16}) all.append(' ').append(x.mark(s, p, 0));
        all.append(" recall");
        for (int l : some(x.count(3))) all.append(' ').append(x.recall(l));
        all.append(" next ").append(x.part(0, 100, 1)).append(' ').append(x.meal(0, 0)).append(' ').append(x.family(0, 1)).append(' ').append(x.lot(0, 1));
        all.append(" end ").append(x.end());
        for (int f : some(x.count(2))) all.append(' ').append(x.box(f, x.count(6)));
        all.append(" back ").append(x.back());
        look(x, all);
        return all.toString();
    }

    private static void same(String what, DinnerBoxes x, DinnerBoxes y) {
        String got = everything(x), want = everything(y);
        due.is(what + " changes nothing", got.equals(want) ? 1 : 0, 1);
        if (!got.equals(want)) System.out.println("    it is " + got + "\n    due is " + want);
    }

    private static void refused(int promise, Supplier<DinnerBoxes> kitchen, int refusal, String... calls) {
        due.sentence(promise, NOTHING_CHANGES);
        for (String call : calls) {
            DinnerBoxes x = kitchen.get();
            due.is(call, Calls.call(x, call), refusal);
            same(call, x, kitchen.get());
        }
    }

    private static void bad(int promise, String... calls) {
        refused(promise, RefusedTest::rich, Due.BAD, calls);
    }

    private static void partsAndMeals() {
        bad(2, "part -1 10000 9", "part 256 10000 9", "part 0 99 9", "part 0 10006 9", "part 0 10040 9", "part 0 100000 9", "part 0 10000 0", "part 0 10000 21");
        bad(3, "unlike 0 0 5", "unlike 0 6 5", "unlike 6 0 5", "unlike -1 0 5", "unlike 0 1 0", "unlike 0 1 100");
        bad(4, "meal 4 0", "meal -1 0", "meal 0 16", "meal 0 -1");
        bad(5, "isOf 0 4", "isOf 4 0", "isOf -1 0");
        bad(6, "with 3 0 0", "with 3 0 1000", "with 4 0 5", "with 3 6 5", "with 0 0 0", "with 0 6 5", "with 3 5 0");
        refused(6, RefusedTest::rich, Due.NO, "with 0 0 5", "with 0 1 5", "with 2 5 999");
        refused(6, RefusedTest::rich, Due.FULL, "with 3 5 1");
        bad(7, "about 0 7", "about 4 0", "about -1 6");
    }

    private static void families() {
        bad(8, "family 256 1", "family -1 1", "family 0 0", "family 0 7", "family 0 20001", "family 0 -1");
        bad(9, "likes 0 0 10", "likes 0 0 -1", "likes 3 0 1", "likes 0 4 1", "likes -1 0 1");
        bad(10, "lay 3 0", "lay 0 2", "lay -1 1", "lay 0 -1");
        refused(10, RefusedTest::rich, Due.NOTHING, "lay 0 1", "lay 2 1");
        bad(11, "may 3 0", "may 0 4", "may -1 0");
        bad(12, "choose 0 7", "choose 0 8", "choose 0 9", "choose 2 2", "choose 2 3", "choose 3 0", "choose 3 -1", "choose 0 -2", "choose 0 16");
        bad(13, "box 0 2", "box 0 -1", "box 3 0");
        bad(14, "ice 3", "ice -1");
    }

    private static void lawAndMenus() {
        bad(16, "trim 13", "trim -1");
        bad(18, "heat 61", "heat -1");
        bad(19, "menu 16", "menu -1");
        bad(20, "best 0 2000", "best 5 2000", "best 1 0", "best 1 2001", "best 5 0");
        refused(20, RefusedTest::rich, Due.SPENT, "best 1 1", "best 4 14", "best 2 9");
        bad(21, "kept 0", "kept 16", "kept -1");
    }

    private static void lots() {
        bad(22, "lot 6 1", "lot -1 1", "lot 0 0", "lot 0 100000");
        bad(23, "told 5 0", "told -1 0", "told 0 4");
        bad(24, "stock 6 0", "stock -1 0", "stock 0 5");
        bad(25, "plan 0", "plan 5001", "plan -1");
        refused(25, RefusedTest::rich, Due.SPENT, "plan 1");
        refused(25, RefusedTest::richShort, Due.NO, "plan 5000");
        bad(26, "swap 0 0", "swap 5001 0", "swap 5000 3", "swap 1 3", "swap 0 3");
        refused(26, RefusedTest::rich, Due.SPENT, "swap 1 0", "swap 1 1");
        refused(26, RefusedTest::richShort, Due.NO, "swap 5000 0", "swap 5000 1");
        bad(27, "pack 0", "pack 5001", "pack -1");
        refused(27, RefusedTest::rich, Due.SPENT, "pack 1");
        refused(27, RefusedTest::richShort, Due.NO, "pack 5000");
        bad(28, "recall 5", "recall -1");
        refused(29, RefusedTest::lastWeek, Due.NO, "end");
    }

    /** In week 99 with a lot that would spoil, a menu and a choice. */
    private static DinnerBoxes lastWeek() {
        DinnerBoxes x = Kitchens.of(2, 2, 2);
        for (int w = 0; w < 90; w++) x.end();
        x.lot(0, 500);
        for (int w = 90; w < 99; w++) x.end();
        x.menu(3);
        x.choose(1, -1);
        return x;
    }

    private static void shiftsAndImages() {
        bad(30, "shifts 2", "shifts -1");
        bad(31, "picks 4 0 0", "picks -1 0 0", "picks 0 2 0", "picks 0 -1 0", "picks 0 0 8", "picks 0 0 -1");
        refused(35, Kitchens::few, Due.NO, "back");
        bad(39, "count 9", "count -1");
    }

    private static void sheets() {
        bad(36, "sheet 2 1", "sheet -1 1", "sheet 0 17", "sheet 1 17", "sheet 2 -1", "sheet 2 17");
        refused(36, RefusedTest::rich, Due.SIZE, "sheet 0 -1", "sheet 1 -1");
        bad(37, "mark 2 0 5", "mark -1 0 5", "mark 2 99 5");
        refused(37, RefusedTest::rich, Due.NOTHING, "mark 1 0 5", "mark 1 -1 5");
        refused(37, RefusedTest::rich, Due.INDEX, "mark 0 3 5", "mark 0 -1 5");
        bad(38, "copy 2 0 0 0 1", "copy 0 0 2 0 1", "copy 1 0 2 0 1", "copy -1 0 1 0 1");
        refused(38, RefusedTest::rich, Due.NOTHING, "copy 0 0 1 0 1", "copy 1 0 0 0 1", "copy 1 9 1 9 9", "copy 0 0 1 0 0");
        refused(38, RefusedTest::rich, Due.INDEX, "copy 0 1 0 0 3", "copy 0 0 0 1 3", "copy 0 2 0 0 2", "copy 0 0 0 2 2", "copy 0 0 0 1 -1", "copy 0 4 0 0 0");
    }

    private static void packed() {
        refused(12, RefusedTest::richPacked, Due.NO, "choose 0 0", "choose 0 -1", "choose 2 5");
        refused(12, RefusedTest::richPacked, Due.BAD, "choose 0 7", "choose 2 2", "choose 3 0");
        refused(19, RefusedTest::richPacked, Due.NO, "menu 0", "menu 7", "menu 15");
        refused(19, RefusedTest::richPacked, Due.BAD, "menu 16");
        refused(27, RefusedTest::richPacked, Due.NO, "pack 5000", "pack 1");
        refused(27, RefusedTest::richPacked, Due.BAD, "pack 0", "pack 5001");
        refused(6, RefusedTest::richPacked, Due.NO, "with 0 0 5");
    }

    private static void full() {
        refused(2, Kitchens::filled, Due.FULL, "part 0 100 1");
        refused(2, Kitchens::filled, Due.BAD, "part 0 99 1");
        refused(4, Kitchens::filled, Due.FULL, "meal 0 0");
        refused(4, Kitchens::filled, Due.BAD, "meal 0 16");
        refused(8, Kitchens::filled, Due.FULL, "family 0 1");
        refused(8, Kitchens::filled, Due.BAD, "family 0 7");
        refused(15, Kitchens::filled, Due.FULL, "feed 1 2 3");
        refused(22, Kitchens::filled, Due.FULL, "lot 0 1");
        refused(22, Kitchens::filled, Due.BAD, "lot 0 0");
        refused(32, Kitchens::filled, Due.FULL, "tell 1");
    }

    /** On a new object each call that speaks of something that is not there. */
    private static void nothingIsThere() {
        due.sentence(1, "No PARTS, no MEALS.");
        String[] bad = {"unlike 0 1 5", "isOf 0 0", "with 0 0 5", "about 0 0", "likes 0 0 5", "lay 0 0", "may 0 0", "choose 0 0", "box 0 0", "ice 0", "trim 1",
            "menu 1", "kept 1", "lot 0 5", "told 0 0", "stock 0 0", "swap 5000 0", "recall 0", "picks 0 0 1"};
        for (String call : bad) {
            DinnerBoxes x = new DinnerBoxes();
            due.is(call, Calls.call(x, call), Due.BAD);
            same(call, x, new DinnerBoxes());
        }
        refused(20, DinnerBoxes::new, Due.NO, "best 1 1", "best 4 2000");
        refused(35, DinnerBoxes::new, Due.NO, "back");
        refused(37, DinnerBoxes::new, Due.NOTHING, "mark 0 0 5", "mark 1 0 5");
        refused(38, DinnerBoxes::new, Due.NOTHING, "copy 0 0 1 0 0", "copy 0 0 0 0 0");
    }

    /** What a refused act uses up all the same, and that it is all it changes. */
    private static void usedUp() {
        due.sentence(17, "an act that reads it uses it up, whatever it answers");
        for (String text : new String[] {"mark 0 ice 9 9", "mark 0 ice", "mark 0 ice (9", "", "m"}) {
            DinnerBoxes x = rich(), y = rich();
            x.trim(0);
            y.trim(0);
            Due.write(x, text);
            due.is("law <" + text + "> is refused", x.law() <= -100 ? 1 : 0, 1);
            due.is("no bytes", x.count(8), 0);
            same("law <" + text + ">", x, y);
        }
        due.sentence(33, "The numbers that wait (none do then)");
        DinnerBoxes x = richShort(), y = richShort();
        x.tell(1);
        due.is("check", x.check(), Due.NO);
        due.is("check", y.check(), Due.NO);
        due.is("none wait", x.count(7), 0);
        same("check", x, y);
    }

    /** Calls that only ask change nothing, whatever they answer. */
    private static void asking() {
        due.sentence(25, "Nothing is promised beyond the answers and state changes described above");
        String[] calls = {"isOf 0 2", "about 0 3", "about 0 6", "may 0 0", "box 0 1", "box 0 0", "ice 0", "best 1 2000", "best 3 2000", "kept 7", "told 0 3", "stock 0 0",
            "stock 0 1", "plan 5000", "swap 5000 2", "shifts 0", "shifts 1", "picks 0 1 3", "count 6", "trim 12", "copy 0 0 0 0 3", "heat 33", "unlike 0 1 20",
            "likes 0 1 8", "choose 0 1"};
        for (String call : calls) {
            DinnerBoxes x = rich();
            int got = Calls.call(x, call);
            due.is(call + " answers: " + got + ";", got >= Due.NONE && got <= Due.BAD || got == Due.NOTHING || got == Due.INDEX || got == Due.SIZE ? 0 : 1, 1);
            same(call, x, rich());
        }
    }
}
