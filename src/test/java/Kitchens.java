/** Kitchens that tests begin with. */
final class Kitchens {
    private Kitchens() {
    }

    /** Parts of sort 0 at station 0, without allergens, at 100 for 100 grams, that keep 9 weeks. */
    static void parts(DinnerBoxes x, int many) {
        for (int p = 0; p < many; p++) x.part(0, 10000, 9);
    }

    /** Green meals, each of a taste of its own, without parts. */
    static void meals(DinnerBoxes x, int many) {
        for (int m = 0; m < many; m++) x.meal(2, m);
    }

    /** Families of one portion that may eat all. */
    static void families(DinnerBoxes x, int many) {
        for (int f = 0; f < many; f++) x.family(0, 1);
    }

    /** So many of each, and 100 grams of part 0 in meal 0, of part 1 in meal 1, and so on. */
    static DinnerBoxes of(int parts, int meals, int families) {
        DinnerBoxes x = new DinnerBoxes();
        parts(x, parts);
        meals(x, meals);
        families(x, families);
        for (int i = 0; i < parts && i < meals; i++) x.with(i, i, 100);
        return x;
    }

    /** Three of each, in week 2, without a menu. */
    static DinnerBoxes few() {
        DinnerBoxes x = of(3, 3, 3);
        for (int w = 0; w < 2; w++) x.end();
        for (int p = 0; p < 3; p++) x.lot(p, 500);
        for (int s = 0; s < 2; s++) x.sheet(s, 3);
        for (int i = 0; i < 3; i++) x.feed(0, 0, 0);
        for (int i = 0; i < 3; i++) x.tell(0);
        return x;
    }

    /** As many of each as there may be, in the last week, without a menu. */
    static DinnerBoxes filled() {
        DinnerBoxes x = of(14, 10, 12);
        for (int w = 0; w < 99; w++) x.end();
        for (int l = 0; l < 40; l++) x.lot(l % 14, 500);
        for (int s = 0; s < 2; s++) x.sheet(s, 16);
        for (int i = 0; i < 10; i++) x.feed(0, 0, 0);
        for (int i = 0; i < 36; i++) x.tell(0);
        return x;
    }
}
