/** The boundary cases of promises 30 and 31, each under the sentence that names it; single numbers are in RangesTest. */
public final class ShiftsEdgesTest {
    private static final String LEAST = "THE SHIFTS: so that the most PICKS (of any STATION in any SHIFT) are the fewest; of several the least FAMILIES in SHIFT 1, as bits.";
    private static final Due due = new Due();

    public static void main(String[] args) {
        nobody();
        howManyFamilies();
        stations();
        unequal();
        emptyBoxes();
        countedOnce();
        most();
        bits();
        due.named(30, 31);
        due.end();
    }

    /** Families that need one part each, of station 0. */
    private static DinnerBoxes kitchen(int families) {
        DinnerBoxes x = Kitchens.of(2, 1, families);
        x.menu(1);
        return x;
    }

    private static void shifts(String what, DinnerBoxes x, int most, int late) {
        due.is(what + ": the most picks", x.shifts(0), most);
        due.is(what + ": in shift 1", x.shifts(1), late);
    }

    private static void nobody() {
        due.sentence(30, "SHIFTS: each FAMILY with a BOX of TODAY that is not empty is in SHIFT 0 or 1.");
        shifts("a new object", new DinnerBoxes(), 0, 0);
        shifts("no families", kitchen(0), 0, 0);
        DinnerBoxes x = kitchen(12);
        x.menu(0);
        shifts("no menu", x, 0, 0);
        DinnerBoxes y = Kitchens.of(0, 1, 12);
        y.menu(1);
        shifts("meals without parts", y, 0, 0);
    }

    private static void howManyFamilies() {
        due.sentence(30, LEAST);
        for (int many = 1; many <= 12; many++) shifts(many + " families", kitchen(many), (many + 1) / 2, (1 << many / 2) - 1);
    }

    private static void stations() {
        due.sentence(30, "PICKS of a STATION in a SHIFT: of each such FAMILY how many PARTS (of the STATION) it needs");
        for (int one = 0; one < 4; one++) for (int other = 0; other < 4; other++) {
            DinnerBoxes x = new DinnerBoxes();
            x.part(0, 10000 + 10 * one, 9);
            x.part(1, 10000 + 10 * other, 9);
            Kitchens.meals(x, 2);
            x.with(0, 0, 1);
            x.with(1, 1, 1);
            x.family(1, 1);
            x.family(0, 1);
            x.menu(3);
            x.choose(1, 2);
            // Family 0 needs part 0; family 1 needs both.
            boolean same = one == other;
            shifts("stations " + one + " and " + other, x, same ? 2 : 1, 1);
            due.is("station " + one + ", all in shift 0", x.picks(one, 0, 0), same ? 3 : 2);
            due.is("station " + other + ", all in shift 0", x.picks(other, 0, 0), same ? 3 : 1);
            due.is("station " + other + ", family 1 in shift 1", x.picks(other, 1, 2), same ? 2 : 1);
        }
        DinnerBoxes y = new DinnerBoxes();
        y.part(1, 10000, 9);
        y.part(2, 10030, 9);
        Kitchens.meals(y, 2);
        y.with(0, 0, 1);
        y.with(1, 1, 1);
        y.family(1, 1);
        y.family(2, 1);
        y.menu(3);
        shifts("stations that do not meet", y, 1, 0);
        due.is("station 0", y.picks(0, 0, 0), 1);
        due.is("station 3", y.picks(3, 0, 0), 1);
        due.is("station 1", y.picks(1, 0, 0), 0);
    }

    /** Families with one pick of station 0, or with two if nothing is barred. */
    private static DinnerBoxes barred(int... barred) {
        DinnerBoxes x = new DinnerBoxes();
        for (int p = 0; p < 2; p++) x.part(p, 10000, 9);
        Kitchens.meals(x, 2);
        for (int m = 0; m < 2; m++) x.with(m, m, 1);
        for (int b : barred) x.family(b, 1);
        x.menu(3);
        return x;
    }

    private static void unequal() {
        due.sentence(30, LEAST);
        shifts("picks 1, 1, 2", barred(1, 1, 0), 2, 3);
        shifts("picks 2, 1, 1", barred(0, 1, 1), 2, 1);
        shifts("picks 1, 2, 1", barred(1, 0, 1), 2, 2);
        shifts("picks 2, 1", barred(0, 1), 2, 1);
        shifts("picks 1, 1, 1, 2", barred(1, 1, 1, 0), 3, 3);
    }

    private static void emptyBoxes() {
        due.sentence(30, "SHIFTS: each FAMILY with a BOX of TODAY that is not empty is in SHIFT 0 or 1.");
        DinnerBoxes x = kitchen(4);
        x.choose(0, -1);
        x.choose(2, -1);
        shifts("two are left", x, 1, 2);
        x.choose(1, -1);
        shifts("one is left", x, 1, 0);
        x.choose(3, -1);
        shifts("none is left", x, 0, 0);
        DinnerBoxes y = kitchen(2);
        y.lot(0, 200);
        y.pack(5000);
        y.family(0, 1);
        shifts("a family that comes when it is packed has none", y, 1, 1);
        y.end();
        shifts("a new week", y, 0, 0);
    }

    private static void countedOnce() {
        due.sentence(31, "it needs (by its BOX, without SWAPS)");
        DinnerBoxes x = new DinnerBoxes();
        x.part(0, 10000, 9);
        x.part(0, 10030, 9);
        Kitchens.meals(x, 2);
        x.with(0, 0, 1);
        x.with(1, 0, 999);
        x.family(0, 6);
        x.menu(3);
        due.is("a part in both meals, six portions", x.picks(0, 0, 0), 1);
        due.is("another station", x.picks(3, 0, 0), 0);
        x.lot(1, 6000);
        due.is("the other part comes", x.swap(5000, 0), 1);
        due.is("by its box", x.picks(0, 0, 0), 1);
        due.is("not by the swap", x.picks(3, 0, 0), 0);
        due.is("pack", x.pack(5000), 6000);
        due.is("packed, by its box", x.picks(0, 0, 0), 1);
        due.is("packed, not by the swap", x.picks(3, 0, 0), 0);
    }

    private static void most() {
        due.sentence(31, "PICKS of a STATION in a SHIFT: of each such FAMILY how many PARTS (of the STATION) it needs");
        DinnerBoxes x = new DinnerBoxes();
        for (int p = 0; p < 14; p++) x.part(0, 10030, 9);
        Kitchens.meals(x, 2);
        for (int p = 0; p < 10; p++) x.with(p / 5, p, 1);
        Kitchens.families(x, 12);
        x.menu(3);
        due.is("all in shift 0", x.picks(3, 0, 0), 120);
        due.is("none in shift 1", x.picks(3, 1, 0), 0);
        due.is("all in shift 1", x.picks(3, 1, 4095), 120);
        due.is("none in shift 0", x.picks(3, 0, 4095), 0);
        due.is("the last in shift 1", x.picks(3, 1, 2048), 10);
        due.is("the others in shift 0", x.picks(3, 0, 2048), 110);
        due.is("another station", x.picks(2, 0, 0), 0);
        shifts("the most", x, 60, 63);
    }

    private static void bits() {
        due.sentence(31, "if so many FAMILIES (bits) are in SHIFT 1. BAD.");
        DinnerBoxes x = kitchen(0);
        due.is("no families", x.picks(0, 0, 0), 0);
        due.is("no families, a bit", x.picks(0, 0, 1), Due.BAD);
        x.family(0, 1);
        x.family(0, 1);
        int[][] rows = {{0, 0}, {1, 1}, {2, 1}, {3, 2}, {4, Due.BAD}, {5, Due.BAD}, {1 << 30, Due.BAD}, {-1, Due.BAD}, {Integer.MIN_VALUE, Due.BAD},
            {Integer.MIN_VALUE | 1, Due.BAD}};
        for (int[] r : rows) due.is("bits " + r[0], x.picks(0, 1, r[0]), r[1]);
        x.choose(1, -1);
        due.is("one with an empty box", x.picks(0, 1, 2), 0);
        due.is("both", x.picks(0, 1, 3), 1);
    }
}
