import java.util.Arrays;

/** A kitchen that sends raw parts of chosen meals week by week; README.md says how to use it. */
public final class DinnerBoxes {
    public static final int BAD = -1000000001, NO = -1000000002, FULL = -1000000003, SPENT = -1000000004, NONE = -1000000005, NOTHING = -1000000011, INDEX = -1000000013, SIZE = -1000000014;

    private static final int PARTS_MOST = 14, MEALS_MOST = 10, FAMILIES_MOST = 12, LOTS_MOST = 40;
    private static final int WEEKS = 100, STATIONS = 4, SORTS = 6, TASTES = 16, BITS_MOST = 255;
    private static final int PARTS_IN_MEAL = 5, MEALS_IN_BOX = 2, MENU_MOST = 4;
    private static final int ANY_KIND = 0, GREEN = 2, RAW = 3;
    private static final int SKIPPED = -1;
    private static final int MENU_TRIES_MOST = 2000, PLAN_TRIES_MOST = 5000;
    private static final int TAPE_MOST = 120, WAIT_MOST = 36, PLACES_MOST = 16;
    private static final int FOUND = 0;

    private final Kitchen now = new Kitchen();
    private final LawReader reader = new LawReader();
    private final MenuSearch menus = new MenuSearch(now);
    private final PlanSearch planner = new PlanSearch(now);
    private final ShiftSearch shifter = new ShiftSearch(now);
    private final Sheets sheets = new Sheets();
    private final int[] waiting = new int[WAIT_MOST];
    private int waits;
    // Made at the first keep() and then written over, so that an object never makes a third kitchen.
    private Kitchen image;

    public DinnerBoxes() {
    }

    // ---- parts, meals

    public int part(int allergens, int how, int keeps) {
        int price = how / 100, station = how / 10 % 10, sort = how % 10;
        if (!isIn(allergens, 0, BITS_MOST) || !isIn(keeps, 1, 20)) return BAD;
        if (how < 0 || !isIn(price, 1, 999) || station >= STATIONS || sort >= SORTS) return BAD;
        Parts parts = now.parts;
        if (parts.size >= PARTS_MOST) return FULL;
        int p = parts.size++;
        parts.allergens[p] = allergens;
        parts.price[p] = price;
        parts.station[p] = station;
        parts.sort[p] = sort;
        parts.keeps[p] = keeps;
        return p;
    }

    public int unlike(int one, int other, int v) {
        Parts parts = now.parts;
        if (!parts.has(one) || !parts.has(other) || one == other || !isIn(v, 1, 99)) return BAD;
        int was = parts.unlike[one][other];
        parts.unlike[one][other] = v;
        parts.unlike[other][one] = v;
        return was;
    }

    public int meal(int kind, int taste) {
        if (!isIn(kind, ANY_KIND, RAW) || !isIn(taste, 0, TASTES - 1)) return BAD;
        Meals meals = now.meals;
        if (meals.size >= MEALS_MOST) return FULL;
        int m = meals.size++;
        meals.kind[m] = kind;
        meals.taste[m] = taste;
        return m;
    }

    public int isOf(int meal, int kind) {
        if (!now.meals.has(meal) || !isIn(kind, ANY_KIND, RAW)) return BAD;
        return truth(now.meals.isKind(meal, kind));
    }

    public int with(int meal, int part, int grams) {
        Meals meals = now.meals;
        if (!meals.has(meal) || !now.parts.has(part) || !isIn(grams, 1, 999)) return BAD;
        if (hasBit(now.menu, meal)) return NO;
        if (meals.grams[meal][part] == 0 && meals.partsIn(meal) >= PARTS_IN_MEAL) return FULL;
        meals.grams[meal][part] = grams;
        return meals.partsIn(meal);
    }

    public int about(int meal, int what) {
        if (!now.meals.has(meal)) return BAD;
        switch (what) {
            case 0: return now.meals.kind[meal];
            case 1: return now.meals.taste[meal];
            case 2: return now.allergensOf(meal);
            case 3: return now.costOf(meal);
            case 4: return now.meals.partsIn(meal);
            case 5: return now.meals.gramsOf(meal);
            case 6: return truth(now.isMarked(meal));
            default: return BAD;
        }
    }

    // ---- families

    public int family(int barred, int how) {
        int portions = how % 10, miles = how / 10 % 1000, green = how / 10000;
        if (!isIn(barred, 0, BITS_MOST) || how < 0 || !isIn(portions, 1, 6) || green > 1) return BAD;
        Families families = now.families;
        if (families.size >= FAMILIES_MOST) return FULL;
        int f = families.size++;
        families.barred[f] = barred;
        families.portions[f] = portions;
        families.miles[f] = miles;
        families.green[f] = green;
        return f;
    }

    public int likes(int family, int meal, int v) {
        if (!now.families.has(family) || !now.meals.has(meal) || !isLikes(v)) return BAD;
        int was = now.families.likes[family][meal];
        now.families.likes[family][meal] = v;
        return was;
    }

    public int lay(int family, int sheet) {
        if (!now.families.has(family) || !sheets.isNumber(sheet)) return BAD;
        if (sheets.isMissing(sheet)) return NOTHING;
        int many = Math.min(now.meals.size, sheets.places[sheet]), came = 0;
        for (int m = 0; m < many; m++) {
            int v = sheets.rows[sheet][m];
            if (isLikes(v)) {
                now.families.likes[family][m] = v;
                came++;
            }
        }
        return came;
    }

    public int may(int family, int meal) {
        if (!now.families.has(family) || !now.meals.has(meal)) return BAD;
        return truth(now.mayEat(family, meal));
    }

    public int choose(int family, int meals) {
        if (!now.families.has(family)) return BAD;
        if (meals != SKIPPED && !now.mayChoose(family, meals)) return BAD;
        if (now.packed) return NO;
        int was = now.families.choice[family];
        now.families.choice[family] = meals;
        return was;
    }

    public int box(int family, int week) {
        if (!now.families.has(family) || !isIn(week, 0, now.today)) return BAD;
        return week == now.today ? now.boxToday(family) : now.families.boxes[family][week];
    }

    public int ice(int family) {
        if (!now.families.has(family)) return BAD;
        return now.iceOf(family);
    }

    // ---- law, menus

    public int feed(int a, int b, int c) {
        if (reader.length + 12 > TAPE_MOST) return FULL;
        reader.addBytes(a);
        reader.addBytes(b);
        reader.addBytes(c);
        return reader.length;
    }

    public int trim(int n) {
        if (!isIn(n, 0, reader.length)) return BAD;
        reader.length = n;
        return n;
    }

    public int law() {
        reader.readTape();
        reader.length = 0;
        if (reader.fault >= 0) return -100 - reader.fault;
        now.law.takeCode(reader.code, reader.size, reader.split);
        return reader.values;
    }

    public int heat(int h) {
        if (!isIn(h, 0, 60)) return BAD;
        int was = now.heat;
        now.heat = h;
        return was;
    }

    public int menu(int meals) {
        if (!isBitsBelow(meals, now.meals.size)) return BAD;
        if (now.packed) return NO;
        now.menu = meals;
        Arrays.fill(now.families.choice, 0);
        return Integer.bitCount(meals);
    }

    public int best(int n, int tries) {
        if (!isIn(n, 1, MENU_MOST) || !isIn(tries, 1, MENU_TRIES_MOST)) return BAD;
        int found = menus.seek(n, tries);
        return found == FOUND ? menus.bestMenu : found;
    }

    public int kept(int meals) {
        if (!isBitsBelow(meals, now.meals.size) || !isIn(Integer.bitCount(meals), 1, MENU_MOST)) return BAD;
        menus.gather();
        return menus.keptBy(meals);
    }

    // ---- lots, swaps

    public int lot(int part, int grams) {
        if (!now.parts.has(part) || !isIn(grams, 1, 99999)) return BAD;
        Lots lots = now.lots;
        if (lots.size >= LOTS_MOST) return FULL;
        int l = lots.size++;
        lots.part[l] = part;
        lots.grams[l] = grams;
        lots.week[l] = now.today;
        lots.left[l] = grams;
        return l;
    }

    public int told(int lot, int what) {
        if (!now.lots.has(lot)) return BAD;
        switch (what) {
            case 0: return now.lots.part[lot];
            case 1: return now.lots.grams[lot];
            case 2: return now.lots.week[lot];
            case 3: return now.lots.left[lot];
            default: return BAD;
        }
    }

    public int stock(int part, int what) {
        if (!now.parts.has(part)) return BAD;
        switch (what) {
            case 0: return now.lots.leftOf(part);
            case 1: return now.needOfAll(part);
            case 2: return now.lots.cameOf(part);
            case 3: return now.lots.packed[part];
            case 4: return now.lots.thrown[part];
            default: return BAD;
        }
    }

    public int plan(int tries) {
        if (!isIn(tries, 1, PLAN_TRIES_MOST)) return BAD;
        int found = planner.seek(tries);
        return found == FOUND ? planner.bestSorry : found;
    }

    public int swap(int tries, int family) {
        if (!isIn(tries, 1, PLAN_TRIES_MOST) || !now.families.has(family)) return BAD;
        int found = planner.seek(tries);
        if (found != FOUND) return found;
        if (!planner.isSwapped(family)) return NONE;
        return 100 * planner.goesOf(family) + planner.comesOf(family);
    }

    public int pack(int tries) {
        if (!isIn(tries, 1, PLAN_TRIES_MOST)) return BAD;
        if (now.packed) return NO;
        int found = planner.seek(tries);
        return found == FOUND ? planner.packAll() : found;
    }

    public int recall(int lot) {
        if (!now.lots.has(lot)) return BAD;
        now.lots.throwLeft(lot);
        return now.lots.got[lot];
    }

    public int end() {
        if (now.today >= WEEKS - 1) return NO;
        now.endWeek();
        return now.today;
    }

    // ---- shifts

    public int shifts(int what) {
        if (!isIn(what, 0, 1)) return BAD;
        shifter.seek();
        return what == 0 ? shifter.best : shifter.bestBits;
    }

    public int picks(int station, int shift, int families) {
        if (!isIn(station, 0, STATIONS - 1) || !isIn(shift, 0, 1)) return BAD;
        if (!isBitsBelow(families, now.families.size)) return BAD;
        return shifter.picksOf(station, shift, families);
    }

    public int tell(int v) {
        if (waits >= WAIT_MOST) return FULL;
        waiting[waits++] = v;
        return waits;
    }

    public int check() {
        int many = waits;
        waits = 0;
        int found = planner.seek(PLAN_TRIES_MOST);
        if (found != FOUND) return found;
        int[] rows = planner.listRows();
        int due = planner.listed, right = 0;
        while (right < many && right < due && waiting[right] == rows[right]) right++;
        return right == many && right == due ? 0 : 1 + right;
    }

    // ---- images, sheets

    public int keep() {
        if (image == null) image = new Kitchen();
        image.takeFrom(now);
        return now.today;
    }

    public int back() {
        if (image == null) return NO;
        now.takeFrom(image);
        return now.today;
    }

    public int sheet(int s, int n) {
        if (!sheets.isNumber(s) || n > PLACES_MOST) return BAD;
        if (n < 0) return SIZE;
        Arrays.fill(sheets.rows[s], (short) 0);
        sheets.places[s] = n;
        return n;
    }

    public int mark(int s, int place, int v) {
        if (!sheets.isNumber(s)) return BAD;
        if (sheets.isMissing(s)) return NOTHING;
        if (!sheets.hasPlaces(s, place, 1)) return INDEX;
        int was = sheets.rows[s][place];
        sheets.rows[s][place] = (short) v;
        return was;
    }

    public int copy(int from, int place, int to, int at, int many) {
        if (!sheets.isNumber(from) || !sheets.isNumber(to)) return BAD;
        if (sheets.isMissing(from) || sheets.isMissing(to)) return NOTHING;
        if (!sheets.hasPlaces(from, place, many) || !sheets.hasPlaces(to, at, many)) return INDEX;
        System.arraycopy(sheets.rows[from], place, sheets.rows[to], at, many);
        return many;
    }

    public int count(int what) {
        switch (what) {
            case 0: return now.parts.size;
            case 1: return now.meals.size;
            case 2: return now.families.size;
            case 3: return now.lots.size;
            case 4: return Integer.bitCount(now.menu);
            case 5: return truth(now.packed);
            case 6: return now.today;
            case 7: return waits;
            case 8: return reader.length;
            default: return BAD;
        }
    }

    // ---- what all of them use

    private static boolean isIn(int v, int least, int most) {
        return v >= least && v <= most;
    }

    private static boolean isLikes(int v) {
        return isIn(v, 0, 9);
    }

    private static boolean hasBit(int bits, int place) {
        return (bits >> place & 1) != 0;
    }

    private static boolean isBitsBelow(int bits, int places) {
        return bits >= 0 && bits >> places == 0;
    }

    private static int truth(boolean holds) {
        return holds ? 1 : 0;
    }

    private static void copyRow(int[] from, int[] to) {
        System.arraycopy(from, 0, to, 0, Math.min(from.length, to.length));
    }

    private static void copyRows(int[][] from, int[][] to) {
        for (int r = 0; r < from.length && r < to.length; r++) copyRow(from[r], to[r]);
    }

    private static final class Parts {
        int size;
        final int[] allergens = new int[PARTS_MOST];
        final int[] sort = new int[PARTS_MOST];
        final int[] price = new int[PARTS_MOST];
        final int[] station = new int[PARTS_MOST];
        final int[] keeps = new int[PARTS_MOST];
        final int[][] unlike = new int[PARTS_MOST][PARTS_MOST];

        Parts() {
            for (int p = 0; p < PARTS_MOST; p++) Arrays.fill(unlike[p], 50);
        }

        boolean has(int p) {
            return p >= 0 && p < size;
        }

        void takeFrom(Parts other) {
            size = other.size;
            copyRow(other.allergens, allergens);
            copyRow(other.sort, sort);
            copyRow(other.price, price);
            copyRow(other.station, station);
            copyRow(other.keeps, keeps);
            copyRows(other.unlike, unlike);
        }
    }

    private static final class Meals {
        int size;
        final int[] kind = new int[MEALS_MOST];
        final int[] taste = new int[MEALS_MOST];
        // By meal and part; 0 where the part is not in the meal.
        final int[][] grams = new int[MEALS_MOST][PARTS_MOST];

        boolean has(int m) {
            return m >= 0 && m < size;
        }

        boolean isKind(int m, int k) {
            return k == ANY_KIND || kind[m] == k || k == GREEN && kind[m] == RAW;
        }

        int partsIn(int m) {
            int many = 0;
            for (int p = 0; p < PARTS_MOST; p++) {
                if (grams[m][p] > 0) many++;
            }
            return many;
        }

        int gramsOf(int m) {
            int all = 0;
            for (int p = 0; p < PARTS_MOST; p++) all += grams[m][p];
            return all;
        }

        void takeFrom(Meals other) {
            size = other.size;
            copyRow(other.kind, kind);
            copyRow(other.taste, taste);
            copyRows(other.grams, grams);
        }
    }

    private static final class Families {
        int size;
        final int[] barred = new int[FAMILIES_MOST];
        final int[] portions = new int[FAMILIES_MOST];
        final int[] green = new int[FAMILIES_MOST];
        final int[] miles = new int[FAMILIES_MOST];
        // For today: bits of meals, 0 none, or SKIPPED.
        final int[] choice = new int[FAMILIES_MOST];
        final int[][] likes = new int[FAMILIES_MOST][MEALS_MOST];
        // By family and week, as packed; 0 for weeks that were not packed.
        final int[][] boxes = new int[FAMILIES_MOST][WEEKS];

        Families() {
            for (int f = 0; f < FAMILIES_MOST; f++) Arrays.fill(likes[f], 5);
        }

        boolean has(int f) {
            return f >= 0 && f < size;
        }

        void takeFrom(Families other) {
            size = other.size;
            copyRow(other.barred, barred);
            copyRow(other.portions, portions);
            copyRow(other.green, green);
            copyRow(other.miles, miles);
            copyRow(other.choice, choice);
            copyRows(other.likes, likes);
            copyRows(other.boxes, boxes);
        }
    }

    private static final class Lots {
        int size;
        final int[] part = new int[LOTS_MOST];
        final int[] grams = new int[LOTS_MOST];
        final int[] week = new int[LOTS_MOST];
        final int[] left = new int[LOTS_MOST];
        // Families that got of the lot, as bits.
        final int[] got = new int[LOTS_MOST];
        // By part, grams ever.
        final int[] packed = new int[PARTS_MOST];
        final int[] thrown = new int[PARTS_MOST];

        boolean has(int l) {
            return l >= 0 && l < size;
        }

        int leftOf(int p) {
            int all = 0;
            for (int l = 0; l < size; l++) {
                if (part[l] == p) all += left[l];
            }
            return all;
        }

        int cameOf(int p) {
            int all = 0;
            for (int l = 0; l < size; l++) {
                if (part[l] == p) all += grams[l];
            }
            return all;
        }

        void throwLeft(int l) {
            thrown[part[l]] += left[l];
            left[l] = 0;
        }

        // Lots are numbered as they come, so going by number takes those that came first.
        void draw(int p, int need, int family) {
            int open = need;
            for (int l = 0; l < size && open > 0; l++) {
                int taken = part[l] == p ? Math.min(open, left[l]) : 0;
                if (taken > 0) {
                    left[l] -= taken;
                    open -= taken;
                    got[l] |= 1 << family;
                    packed[p] += taken;
                }
            }
        }

        void takeFrom(Lots other) {
            size = other.size;
            copyRow(other.part, part);
            copyRow(other.grams, grams);
            copyRow(other.week, week);
            copyRow(other.left, left);
            copyRow(other.got, got);
            copyRow(other.packed, packed);
            copyRow(other.thrown, thrown);
        }
    }

    /** The law in force, worked out from the end: values first, then the sign that joins them. */
    private static final class Law {
        // In the code, from here downwards: the names by their slots; signs are their bytes below 0.
        static final int FIRST_NAME = -1000;
        static final int NAMES_MOST = 5;

        boolean stands;
        int size;
        // Where the code of mark ends and that of ice begins.
        int split;
        final int[] code = new int[TAPE_MOST];
        final int[] stack = new int[TAPE_MOST];
        // What the names mean for the meal or the box that is looked at.
        final int[] named = new int[NAMES_MOST];

        void takeCode(int[] newCode, int newSize, int newSplit) {
            copyRow(newCode, code);
            size = Math.min(newSize, TAPE_MOST);
            split = Math.min(newSplit, size);
            stands = true;
        }

        void takeFrom(Law other) {
            takeCode(other.code, other.size, other.split);
            stands = other.stands;
        }

        int worthOfMark() {
            return worth(0, split);
        }

        int worthOfIce() {
            return worth(split, size);
        }

        private int worth(int from, int to) {
            int top = 0;
            for (int i = from; i < to; i++) {
                int c = code[i];
                if (c >= 0 || c <= FIRST_NAME) {
                    if (top < stack.length) stack[top++] = c >= 0 ? c : nameOf(FIRST_NAME - c);
                } else if (c == -'!') {
                    if (top > 0) stack[top - 1] = truth(stack[top - 1] == 0);
                } else if (top > 1) {
                    top--;
                    stack[top - 1] = join(-c, stack[top - 1], stack[top]);
                }
            }
            return top > 0 ? stack[0] : 0;
        }

        private int nameOf(int slot) {
            return slot >= 0 && slot < NAMES_MOST ? named[slot] : 0;
        }

        private static int join(int sign, int a, int b) {
            switch (sign) {
                case '|': return truth(a != 0 || b != 0);
                case '&': return truth(a != 0 && b != 0);
                case '<': return truth(a < b);
                case '=': return truth(a == b);
                case '>': return truth(a > b);
                case '+': return a + b;
                case '-': return a - b;
                case '*': return a * b;
                default: return b == 0 ? 0 : a / b;
            }
        }
    }

    /** All that an image keeps. */
    private static final class Kitchen {
        final Parts parts = new Parts();
        final Meals meals = new Meals();
        final Families families = new Families();
        final Lots lots = new Lots();
        final Law law = new Law();
        int today;
        int menu;
        int heat = 20;
        boolean packed;

        void takeFrom(Kitchen other) {
            parts.takeFrom(other.parts);
            meals.takeFrom(other.meals);
            families.takeFrom(other.families);
            lots.takeFrom(other.lots);
            law.takeFrom(other.law);
            today = other.today;
            menu = other.menu;
            heat = other.heat;
            packed = other.packed;
        }

        int allergensOf(int m) {
            int all = 0;
            for (int p = 0; p < parts.size; p++) {
                if (meals.grams[m][p] > 0) all |= parts.allergens[p];
            }
            return all;
        }

        int costOf(int m) {
            int all = 0;
            for (int p = 0; p < parts.size; p++) all += meals.grams[m][p] * parts.price[p] / 100;
            return all;
        }

        boolean isMarked(int m) {
            if (!law.stands) return false;
            law.named[0] = meals.gramsOf(m);
            law.named[1] = meals.partsIn(m);
            law.named[2] = Integer.bitCount(allergensOf(m));
            law.named[3] = meals.kind[m];
            law.named[4] = costOf(m);
            return law.worthOfMark() != 0;
        }

        boolean mayEat(int f, int m) {
            if ((allergensOf(m) & families.barred[f]) != 0) return false;
            return families.green[f] == 0 || meals.isKind(m, GREEN);
        }

        boolean mayChoose(int f, int bits) {
            if (bits < 0 || (bits & ~menu) != 0 || Integer.bitCount(bits) > MEALS_IN_BOX) return false;
            for (int m = 0; m < meals.size; m++) {
                if (hasBit(bits, m) && !mayEat(f, m)) return false;
            }
            return true;
        }

        int boxToday(int f) {
            if (packed) return families.boxes[f][today];
            int choice = families.choice[f];
            if (choice == SKIPPED) return 0;
            int full = choice;
            for (int many = Integer.bitCount(choice); many < MEALS_IN_BOX; many++) full |= guess(f, full);
            return full;
        }

        // The bit of the meal that comes next to a box by guess; 0 if there is none.
        private int guess(int f, int has) {
            int ahead = today > 0 ? families.boxes[f][today - 1] : 0;
            int bestRank = -1, found = 0;
            for (int m = 0; m < meals.size; m++) {
                if (!hasBit(menu & ~has, m) || !mayEat(f, m)) continue;
                int rank = families.likes[f][m] + (hasBit(ahead, m) ? 0 : 10);
                if (rank > bestRank) {
                    bestRank = rank;
                    found = 1 << m;
                }
            }
            return found;
        }

        int iceOf(int f) {
            int full = boxToday(f);
            if (full == 0 || !law.stands) return 0;
            int grams = 0, raw = 0;
            for (int m = 0; m < meals.size; m++) {
                if (!hasBit(full, m)) continue;
                grams += meals.gramsOf(m);
                if (meals.isKind(m, RAW)) raw = 1;
            }
            law.named[0] = grams * families.portions[f];
            law.named[1] = families.miles[f];
            law.named[2] = heat;
            law.named[3] = raw;
            return Math.max(0, Math.min(9999, law.worthOfIce()));
        }

        int needOf(int f, int full, int p) {
            int grams = 0;
            for (int m = 0; m < meals.size; m++) {
                if (hasBit(full, m)) grams += meals.grams[m][p];
            }
            return grams * families.portions[f];
        }

        int needOfAll(int p) {
            int all = 0;
            for (int f = 0; f < families.size; f++) all += needOf(f, boxToday(f), p);
            return all;
        }

        // A family that comes later in this week finds an empty box in its row: it was not packed.
        void freezeBoxes() {
            for (int f = 0; f < families.size; f++) families.boxes[f][today] = boxToday(f);
            packed = true;
        }

        void endWeek() {
            for (int l = 0; l < lots.size; l++) {
                if (lots.week[l] + parts.keeps[lots.part[l]] <= today) lots.throwLeft(l);
            }
            today++;
            menu = 0;
            packed = false;
            Arrays.fill(families.choice, 0);
        }
    }

    /** The tape, and what reads a law from it. */
    private static final class LawReader {
        private static final int END = 0, WORD = 1, NUMBER = 2, SIGN = 3, BROKEN = 4;
        private static final int LEVELS = 5, TEST_LEVEL = 2;
        private static final int OPEN_MOST = 8, DIGITS_MOST = 5;
        private static final String MARK_NAMES = "gnakc", ICE_NAMES = "gmhr";

        final int[] tape = new int[TAPE_MOST];
        int length;
        final int[] code = new int[TAPE_MOST];
        int size;
        int split;
        int values;
        // The place of the fault; below 0 while there is none.
        int fault;
        private String names;
        // The word or sign that is next: what it is, its first place, the place behind it.
        private int next;
        private int start;
        private int past;

        void addBytes(int four) {
            for (int shift = 24; shift >= 0 && length < TAPE_MOST; shift -= 8) tape[length++] = four >> shift & 255;
        }

        void readTape() {
            size = 0;
            values = 0;
            fault = -1;
            next = SIGN;
            past = 0;
            names = MARK_NAMES;
            step();
            readWord("mark");
            readLevel(0, 0, 0);
            split = size;
            names = ICE_NAMES;
            readWord("ice");
            readLevel(0, 0, 0);
            if (next != END) fail();
        }

        private void fail() {
            if (fault < 0) fault = start;
        }

        private void step() {
            boolean behindWord = next == WORD || next == NUMBER;
            int end = past;
            start = end;
            while (start < length && tape[start] == ' ') start++;
            past = start;
            if (start >= length) {
                next = END;
            } else if (isLetter(start)) {
                next = WORD;
                while (past < length && isLetter(past)) past++;
            } else if (isDigit(start)) {
                next = NUMBER;
                while (past < length && isDigit(past)) past++;
                if (past - start > DIGITS_MOST) next = BROKEN;
            } else {
                next = SIGN;
                past++;
            }
            if (behindWord && start == end && (next == WORD || next == NUMBER)) next = BROKEN;
        }

        private boolean isLetter(int at) {
            return tape[at] >= 'a' && tape[at] <= 'z';
        }

        private boolean isDigit(int at) {
            return tape[at] >= '0' && tape[at] <= '9';
        }

        private void readWord(String word) {
            boolean same = fault < 0 && next == WORD && past - start == word.length();
            for (int i = 0; same && i < word.length(); i++) same = tape[start + i] == word.charAt(i);
            if (same) step();
            else fail();
        }

        private static String signsOf(int level) {
            switch (level) {
                case 0: return "|";
                case 1: return "&";
                case TEST_LEVEL: return "<=>";
                case 3: return "+-";
                default: return "*/";
            }
        }

        private boolean isSignOf(String signs) {
            return fault < 0 && next == SIGN && signs.indexOf((char) tape[start]) >= 0;
        }

        // One reader for all levels from | to *: they differ in their signs, and in that a test has one at most.
        private void readLevel(int level, int brackets, int nots) {
            if (level >= LEVELS) {
                readPart(brackets, nots);
                return;
            }
            readLevel(level + 1, brackets, nots);
            int most = level == TEST_LEVEL ? 1 : TAPE_MOST;
            for (int i = 0; i < most && isSignOf(signsOf(level)); i++) {
                int sign = tape[start];
                step();
                readLevel(level + 1, brackets, nots);
                put(-sign);
            }
        }

        private void readPart(int brackets, int nots) {
            if (fault >= 0) return;
            int slot = slotOfName();
            if (next == NUMBER) {
                putValue(number());
            } else if (slot >= 0) {
                putValue(Law.FIRST_NAME - slot);
            } else if (isSignOf("!") && nots < OPEN_MOST) {
                step();
                readPart(brackets, nots + 1);
                put(-'!');
            } else if (isSignOf("(") && brackets < OPEN_MOST) {
                step();
                readLevel(0, brackets + 1, nots);
                if (isSignOf(")")) step();
                else fail();
            } else {
                fail();
            }
        }

        private int slotOfName() {
            return next == WORD && past - start == 1 ? names.indexOf((char) tape[start]) : -1;
        }

        private int number() {
            int v = 0;
            for (int i = start; i < past; i++) v = v * 10 + tape[i] - '0';
            return v;
        }

        private void putValue(int c) {
            put(c);
            values++;
            step();
        }

        private void put(int c) {
            if (size < TAPE_MOST) code[size++] = c;
        }
    }

    /** Seeks the best menu. */
    private static final class MenuSearch {
        private final Kitchen kitchen;
        // Of each family the meals that it may eat and likes well enough, as bits.
        private final int[] liked = new int[FAMILIES_MOST];
        private final int[] cost = new int[MEALS_MOST];
        private int greens;
        private int limit;
        private int tries;
        private int bestKept;
        private int bestCost;
        int bestMenu;

        MenuSearch(Kitchen kitchen) {
            this.kitchen = kitchen;
        }

        void gather() {
            Meals meals = kitchen.meals;
            Families families = kitchen.families;
            greens = 0;
            for (int m = 0; m < meals.size; m++) {
                cost[m] = kitchen.costOf(m);
                if (meals.isKind(m, GREEN)) greens |= 1 << m;
            }
            for (int f = 0; f < families.size; f++) {
                liked[f] = 0;
                for (int m = 0; m < meals.size; m++) {
                    if (families.likes[f][m] >= 5 && kitchen.mayEat(f, m)) liked[f] |= 1 << m;
                }
            }
        }

        int keptBy(int bits) {
            int least = Math.min(2, Integer.bitCount(bits)), many = 0;
            for (int f = 0; f < kitchen.families.size; f++) {
                if (Integer.bitCount(liked[f] & bits) >= least) many++;
            }
            return many;
        }

        int seek(int n, int triesMost) {
            gather();
            limit = triesMost;
            tries = 0;
            bestKept = -1;
            bestCost = 0;
            bestMenu = 0;
            seekFrom(0, n, 0, 0);
            if (tries > limit) return SPENT;
            return bestKept < 0 ? NO : FOUND;
        }

        private void seekFrom(int first, int open, int bits, int tastes) {
            if (open <= 0) {
                weigh(bits);
                return;
            }
            for (int m = first; m < kitchen.meals.size && tries <= limit; m++) {
                int taste = 1 << kitchen.meals.taste[m];
                if ((tastes & taste) != 0) continue;
                tries++;
                if (tries <= limit) seekFrom(m + 1, open - 1, bits | 1 << m, tastes | taste);
            }
        }

        private void weigh(int bits) {
            if ((bits & greens) == 0) return;
            int keeps = keptBy(bits), costs = 0;
            for (int m = 0; m < kitchen.meals.size; m++) {
                if (hasBit(bits, m)) costs += cost[m];
            }
            if (keeps > bestKept || keeps == bestKept && costs < bestCost) {
                bestKept = keeps;
                bestCost = costs;
                bestMenu = bits;
            }
        }
    }

    /** Seeks the plan of swaps, and packs by it. */
    private static final class PlanSearch {
        // A family needs 10 parts at most, and k of 14 parts can go for 14 - k others: 49 ways at most.
        private static final int SWAPS_MOST = FAMILIES_MOST * 49;
        private static final int NO_SWAP = -1;

        private final Kitchen kitchen;
        private final int[][] need = new int[FAMILIES_MOST][PARTS_MOST];
        // Stock less what the row needs so far, by part, and how many of these are below 0.
        private final int[] spare = new int[PARTS_MOST];
        private int shorts;
        // The swaps that may be; those of family f are first[f] .. first[f + 1] - 1.
        private final int[] first = new int[FAMILIES_MOST + 1];
        private final int[] goes = new int[SWAPS_MOST];
        private final int[] comes = new int[SWAPS_MOST];
        private final int[] grams = new int[SWAPS_MOST];
        private final int[] sorry = new int[SWAPS_MOST];
        private int swaps;
        private final int[] row = new int[FAMILIES_MOST];
        private final int[] bestRow = new int[FAMILIES_MOST];
        private int limit;
        private int tries;
        private boolean found;
        private int bestSwaps;
        int bestSorry;
        private final int[] list = new int[WAIT_MOST];
        int listed;

        PlanSearch(Kitchen kitchen) {
            this.kitchen = kitchen;
        }

        int seek(int triesMost) {
            gatherNeeds();
            gatherSwaps();
            limit = triesMost;
            tries = 0;
            found = false;
            bestSorry = 0;
            bestSwaps = 0;
            seekFrom(0, 0, 0);
            if (tries > limit) return SPENT;
            return found ? FOUND : NO;
        }

        private void gatherNeeds() {
            shorts = 0;
            for (int p = 0; p < kitchen.parts.size; p++) spare[p] = kitchen.lots.leftOf(p);
            for (int f = 0; f < kitchen.families.size; f++) {
                int full = kitchen.boxToday(f);
                for (int p = 0; p < kitchen.parts.size; p++) {
                    need[f][p] = kitchen.needOf(f, full, p);
                    spare[p] -= need[f][p];
                }
            }
            for (int p = 0; p < kitchen.parts.size; p++) {
                if (spare[p] < 0) shorts++;
            }
        }

        private void gatherSwaps() {
            swaps = 0;
            first[0] = 0;
            for (int f = 0; f < kitchen.families.size; f++) {
                for (int p = 0; p < kitchen.parts.size; p++) {
                    if (need[f][p] > 0) gatherSwapsOf(f, p);
                }
                first[f + 1] = swaps;
            }
        }

        private void gatherSwapsOf(int f, int going) {
            Parts parts = kitchen.parts;
            for (int p = 0; p < parts.size && swaps < SWAPS_MOST; p++) {
                if (need[f][p] > 0 || parts.sort[p] != parts.sort[going]) continue;
                if ((parts.allergens[p] & kitchen.families.barred[f]) != 0) continue;
                goes[swaps] = going;
                comes[swaps] = p;
                grams[swaps] = need[f][going];
                sorry[swaps] = need[f][going] * parts.unlike[going][p] / 100;
                swaps++;
            }
        }

        private void seekFrom(int f, int soFar, int swapped) {
            if (found && (soFar > bestSorry || soFar == bestSorry && swapped >= bestSwaps)) return;
            if (f >= kitchen.families.size) {
                if (shorts == 0) takeRow(soFar, swapped);
                return;
            }
            row[f] = NO_SWAP;
            seekFrom(f + 1, soFar, swapped);
            for (int s = first[f]; s < first[f + 1] && tries <= limit; s++) {
                tries++;
                if (tries > limit) return;
                row[f] = s;
                move(goes[s], comes[s], grams[s]);
                seekFrom(f + 1, soFar + sorry[s], swapped + 1);
                move(comes[s], goes[s], grams[s]);
            }
        }

        private void move(int going, int coming, int many) {
            change(going, many);
            change(coming, -many);
        }

        private void change(int p, int by) {
            if (spare[p] < 0) shorts--;
            spare[p] += by;
            if (spare[p] < 0) shorts++;
        }

        private void takeRow(int soFar, int swapped) {
            found = true;
            bestSorry = soFar;
            bestSwaps = swapped;
            copyRow(row, bestRow);
        }

        boolean isSwapped(int f) {
            return bestRow[f] >= 0;
        }

        int goesOf(int f) {
            return bestRow[f] >= 0 ? goes[bestRow[f]] : NONE;
        }

        int comesOf(int f) {
            return bestRow[f] >= 0 ? comes[bestRow[f]] : NONE;
        }

        int[] listRows() {
            listed = 0;
            for (int f = 0; f < kitchen.families.size && listed + 3 <= WAIT_MOST; f++) {
                if (!isSwapped(f)) continue;
                list[listed++] = f;
                list[listed++] = goesOf(f);
                list[listed++] = comesOf(f);
            }
            return list;
        }

        int packAll() {
            int all = 0;
            kitchen.freezeBoxes();
            for (int f = 0; f < kitchen.families.size; f++) {
                for (int p = 0; p < kitchen.parts.size; p++) {
                    int many = plannedNeed(f, p);
                    kitchen.lots.draw(p, many, f);
                    all += many;
                }
            }
            return all;
        }

        private int plannedNeed(int f, int p) {
            if (p == goesOf(f)) return 0;
            return p == comesOf(f) ? grams[bestRow[f]] : need[f][p];
        }
    }

    /** Seeks the shifts. */
    private static final class ShiftSearch {
        private static final int MORE_THAN_ANY = FAMILIES_MOST * PARTS_MOST + 1;

        private final Kitchen kitchen;
        private final int[][] picked = new int[FAMILIES_MOST][STATIONS];
        private final int[][] load = new int[2][STATIONS];
        int best;
        int bestBits;

        ShiftSearch(Kitchen kitchen) {
            this.kitchen = kitchen;
        }

        private void gather() {
            for (int f = 0; f < kitchen.families.size; f++) {
                int full = kitchen.boxToday(f);
                Arrays.fill(picked[f], 0);
                for (int p = 0; p < kitchen.parts.size; p++) {
                    if (kitchen.needOf(f, full, p) > 0) picked[f][kitchen.parts.station[p]]++;
                }
            }
        }

        int picksOf(int station, int shift, int late) {
            gather();
            int all = 0;
            for (int f = 0; f < kitchen.families.size; f++) {
                if (hasBit(late, f) == (shift == 1)) all += picked[f][station];
            }
            return all;
        }

        void seek() {
            gather();
            best = MORE_THAN_ANY;
            bestBits = 0;
            seekFrom(kitchen.families.size - 1, 0, 0);
        }

        // From the last family down, shift 0 first: so the rows come with rising bits, and the first of several stays.
        private void seekFrom(int f, int late, int most) {
            if (most >= best) return;
            if (f < 0) {
                best = most;
                bestBits = late;
                return;
            }
            for (int shift = 0; shift < 2; shift++) {
                int highest = most;
                for (int s = 0; s < STATIONS; s++) {
                    load[shift][s] += picked[f][s];
                    highest = Math.max(highest, load[shift][s]);
                }
                seekFrom(f - 1, late | shift << f, highest);
                for (int s = 0; s < STATIONS; s++) load[shift][s] -= picked[f][s];
            }
        }
    }

    private static final class Sheets {
        private static final int MISSING = -1;

        final short[][] rows = new short[2][PLACES_MOST];
        final int[] places = new int[2];

        Sheets() {
            Arrays.fill(places, MISSING);
        }

        boolean isNumber(int s) {
            return s >= 0 && s < places.length;
        }

        boolean isMissing(int s) {
            return places[s] < 0;
        }

        // Also false if many is below 0: there are no such places.
        boolean hasPlaces(int s, int from, int many) {
            return from >= 0 && many >= 0 && from <= places[s] && many <= places[s] - from;
        }
    }
}
