/** Promises 30 and 31. */
public final class ShiftsTest {
    private static final Due due = new Due();

    public static void main(String[] args) {
        picks();
        balance();
        emptyBoxes();
        due.end();
    }

    private static DinnerBoxes kitchen() {
        DinnerBoxes x = new DinnerBoxes();
        for (int p = 0; p < 6; p++) x.part(0, 10000 + 10 * (p % 4), 9);
        for (int m = 0; m < 3; m++) x.meal(0, m);
        for (int p = 0; p < 5; p++) x.with(0, p, 100);
        x.with(1, 0, 100);
        x.with(1, 5, 100);
        x.with(2, 4, 100);
        for (int f = 0; f < 4; f++) x.family(0, 6);
        x.menu(7);
        x.choose(0, 3);
        x.choose(1, 6);
        x.choose(2, 5);
        x.choose(3, 3);
        return x;
    }

    private static void picks() {
        DinnerBoxes x = kitchen();
        // Needed parts by family: 0 {0..5}, 1 {0,4,5}, 2 {0..4}, 3 {0..5}; stations of parts 0 1 2 3 0 1.
        int[][] by = {{2, 2, 1, 1}, {2, 1, 0, 0}, {2, 1, 1, 1}, {2, 2, 1, 1}};
        for (int late = 0; late < 16; late++) {
            for (int s = 0; s < 4; s++) {
                int[] want = new int[2];
                for (int f = 0; f < 4; f++) want[late >> f & 1] += by[f][s];
                for (int shift = 0; shift < 2; shift++) due.is("picks " + s + " " + shift + " " + late, x.picks(s, shift, late), want[shift]);
            }
        }
        due.is("picks station 4", x.picks(4, 0, 0), Due.BAD);
        due.is("picks station -1", x.picks(-1, 0, 0), Due.BAD);
        due.is("picks shift 2", x.picks(0, 2, 0), Due.BAD);
        due.is("picks shift -1", x.picks(0, -1, 0), Due.BAD);
        due.is("picks no family", x.picks(0, 0, 16), Due.BAD);
        due.is("picks -1", x.picks(0, 0, -1), Due.BAD);
    }

    private static void balance() {
        DinnerBoxes x = kitchen();
        due.is("the most picks", x.shifts(0), 4);
        due.is("the least bits", x.shifts(1), 3);
        due.is("shifts 2", x.shifts(2), Due.BAD);
        due.is("shifts -1", x.shifts(-1), Due.BAD);
        for (int p = 0; p < 6; p++) x.lot(p, 99999);
        x.pack(5000);
        due.is("packed: the most picks", x.shifts(0), 4);
        due.is("packed: the least bits", x.shifts(1), 3);
        x.end();
        due.is("next week: no picks", x.shifts(0), 0);
        due.is("next week: nobody", x.shifts(1), 0);
    }

    private static void emptyBoxes() {
        DinnerBoxes x = kitchen();
        x.choose(0, -1);
        x.choose(2, -1);
        due.is("two families", x.shifts(0), 2);
        due.is("the lesser of them late", x.shifts(1), 2);
        due.is("an empty box may be told late", x.picks(0, 1, 5), 0);
        due.is("the others are not", x.picks(0, 0, 5), 4);
        x.choose(3, -1);
        due.is("one family", x.shifts(0), 2);
        due.is("one family is in shift 0", x.shifts(1), 0);
        DinnerBoxes y = new DinnerBoxes();
        y.meal(0, 0);
        y.family(0, 1);
        y.menu(1);
        due.is("a box without parts", y.shifts(0), 0);
        due.is("a box without parts is in shift 0", y.shifts(1), 0);
    }
}
