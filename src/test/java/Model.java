import java.io.ByteArrayInputStream;
import java.io.ByteArrayOutputStream;
import java.io.IOException;
import java.io.ObjectInputStream;
import java.io.ObjectOutputStream;
import java.io.Serializable;
import java.util.ArrayList;
import java.util.Arrays;
import java.util.Collections;
import java.util.Comparator;
import java.util.HashMap;
import java.util.List;
import java.util.Map;
import java.util.TreeMap;
import java.util.TreeSet;

/** A second way to the same answers, as near to the document's words as may be, without a thought of speed. */
final class Model {
    static final class Part implements Serializable { int allergens, sort, price, station, keeps, packed, thrown; }
    static final class Meal implements Serializable { int kind, taste; TreeMap<Integer, Integer> grams = new TreeMap<>(); }
    static final class Family implements Serializable {
        int barred, portions, miles;
        boolean green, skipped;
        Map<Integer, Integer> likes = new HashMap<>();
        TreeSet<Integer> choice = new TreeSet<>();
        Map<Integer, Integer> boxes = new HashMap<>();
    }
    static final class Lot implements Serializable { int part, grams, week, left; TreeSet<Integer> got = new TreeSet<>(); }
    static final class State implements Serializable {
        List<Part> parts = new ArrayList<>();
        List<Meal> meals = new ArrayList<>();
        List<Family> families = new ArrayList<>();
        List<Lot> lots = new ArrayList<>();
        Map<Integer, Integer> unlike = new HashMap<>();
        TreeSet<Integer> menu = new TreeSet<>();
        ArrayList<String> mark, ice;
        int today, heat = 20;
        boolean packed;
    }
    record Swap(int goes, int comes, int grams, int sorry) { }

    private State s = new State();
    private byte[] image;
    private final short[][] sheets = new short[2][];
    private final StringBuilder tape = new StringBuilder();
    private final List<Integer> waiting = new ArrayList<>();

    private boolean part(int p) { return p >= 0 && p < s.parts.size(); }
    private boolean meal(int m) { return m >= 0 && m < s.meals.size(); }
    private boolean family(int f) { return f >= 0 && f < s.families.size(); }
    private static boolean in(int v, int a, int b) { return a <= v && v <= b; }
    private static int bits(Iterable<Integer> set) { int b = 0; for (int i : set) b |= 1 << i; return b; }
    private static TreeSet<Integer> set(int bits) {
        TreeSet<Integer> set = new TreeSet<>();
        for (int i = 0; i < 31; i++) if ((bits & 1 << i) != 0) set.add(i);
        return set;
    }

    int call(String name, int[] a) {
        switch (name) {
            case "part": return newPart(a[0], a[1], a[2]);
            case "unlike": {
                if (!part(a[0]) || !part(a[1]) || a[0] == a[1] || !in(a[2], 1, 99)) return Due.BAD;
                Integer was = s.unlike.put(pair(a[0], a[1]), a[2]);
                return was == null ? 50 : was;
            }
            case "meal": {
                if (!in(a[0], 0, 3) || !in(a[1], 0, 15)) return Due.BAD;
                if (s.meals.size() == 10) return Due.FULL;
                Meal m = new Meal();
                m.kind = a[0];
                m.taste = a[1];
                s.meals.add(m);
                return s.meals.size() - 1;
            }
            case "isOf": return !meal(a[0]) || !in(a[1], 0, 3) ? Due.BAD : isOf(a[0], a[1]) ? 1 : 0;
            case "with": {
                if (!meal(a[0]) || !part(a[1]) || !in(a[2], 1, 999)) return Due.BAD;
                if (s.menu.contains(a[0])) return Due.NO;
                TreeMap<Integer, Integer> grams = s.meals.get(a[0]).grams;
                if (!grams.containsKey(a[1]) && grams.size() == 5) return Due.FULL;
                grams.put(a[1], a[2]);
                return grams.size();
            }
            case "about": {
                if (!meal(a[0]) || !in(a[1], 0, 6)) return Due.BAD;
                Meal m = s.meals.get(a[0]);
                return new int[] {m.kind, m.taste, allergens(a[0]), cost(a[0]), m.grams.size(), grams(a[0]), marked(a[0])}[a[1]];
            }
            case "family": return newFamily(a[0], a[1]);
            case "likes": {
                if (!family(a[0]) || !meal(a[1]) || !in(a[2], 0, 9)) return Due.BAD;
                Integer was = s.families.get(a[0]).likes.put(a[1], a[2]);
                return was == null ? 5 : was;
            }
            case "lay": {
                if (!family(a[0]) || !in(a[1], 0, 1)) return Due.BAD;
                if (sheets[a[1]] == null) return Due.NOTHING;
                int came = 0;
                for (int m = 0; m < s.meals.size() && m < sheets[a[1]].length; m++) {
                    int v = sheets[a[1]][m];
                    if (v < 0 || v > 9) continue;
                    s.families.get(a[0]).likes.put(m, v);
                    came++;
                }
                return came;
            }
            case "may": return !family(a[0]) || !meal(a[1]) ? Due.BAD : may(a[0], a[1]) ? 1 : 0;
            case "choose": return choose(a[0], a[1]);
            case "box": return !family(a[0]) || !in(a[1], 0, s.today) ? Due.BAD : bits(box(a[0], a[1]));
            case "ice": return family(a[0]) ? ice(a[0]) : Due.BAD;
            default: return callMore(name, a);
        }
    }

    private int callMore(String name, int[] a) {
        switch (name) {
            case "feed": {
                if (tape.length() + 12 > 120) return Due.FULL;
                for (int v : a) for (int i = 3; i >= 0; i--) tape.append((char) (v >>> 8 * i & 255));
                return tape.length();
            }
            case "trim": {
                if (!in(a[0], 0, tape.length())) return Due.BAD;
                tape.setLength(a[0]);
                return a[0];
            }
            case "law": return law();
            case "heat": {
                if (!in(a[0], 0, 60)) return Due.BAD;
                int was = s.heat;
                s.heat = a[0];
                return was;
            }
            case "menu": {
                if (!in(a[0], 0, (1 << s.meals.size()) - 1)) return Due.BAD;
                if (s.packed) return Due.NO;
                s.menu = set(a[0]);
                for (Family f : s.families) { f.skipped = false; f.choice.clear(); }
                return s.menu.size();
            }
            case "best": return best(a[0], a[1]);
            case "kept": return !in(a[0], 1, (1 << s.meals.size()) - 1) || Integer.bitCount(a[0]) > 4 ? Due.BAD : kept(set(a[0]));
            case "lot": {
                if (!part(a[0]) || !in(a[1], 1, 99999)) return Due.BAD;
                if (s.lots.size() == 40) return Due.FULL;
                Lot lot = new Lot();
                lot.part = a[0];
                lot.grams = a[1];
                lot.left = a[1];
                lot.week = s.today;
                s.lots.add(lot);
                return s.lots.size() - 1;
            }
            case "told": {
                if (!in(a[0], 0, s.lots.size() - 1) || !in(a[1], 0, 3)) return Due.BAD;
                Lot lot = s.lots.get(a[0]);
                return new int[] {lot.part, lot.grams, lot.week, lot.left}[a[1]];
            }
            case "stock": {
                if (!part(a[0]) || !in(a[1], 0, 4)) return Due.BAD;
                int came = 0, needs = 0;
                for (Lot lot : s.lots) if (lot.part == a[0]) came += lot.grams;
                for (int f = 0; f < s.families.size(); f++) needs += needs(f).getOrDefault(a[0], 0);
                Part p = s.parts.get(a[0]);
                if (stock(a[0]) + p.packed + p.thrown != came) throw new IllegalStateException("IN is not PACKED, THROWN and STOCK");
                return new int[] {stock(a[0]), needs, came, p.packed, p.thrown}[a[1]];
            }
            case "plan": {
                if (!in(a[0], 1, 5000)) return Due.BAD;
                int refused = plan(a[0]);
                return refused != 0 ? refused : planSorry;
            }
            case "swap": {
                if (!in(a[0], 1, 5000) || !family(a[1])) return Due.BAD;
                int refused = plan(a[0]);
                if (refused != 0) return refused;
                Swap w = thePlan.get(a[1]);
                return w == null ? Due.NONE : 100 * w.goes + w.comes;
            }
            case "pack": {
                if (!in(a[0], 1, 5000)) return Due.BAD;
                if (s.packed) return Due.NO;
                int refused = plan(a[0]);
                return refused != 0 ? refused : pack();
            }
            case "recall": {
                if (!in(a[0], 0, s.lots.size() - 1)) return Due.BAD;
                spoil(s.lots.get(a[0]));
                return bits(s.lots.get(a[0]).got);
            }
            case "end": return end();
            default: return callLast(name, a);
        }
    }

    private int callLast(String name, int[] a) {
        switch (name) {
            case "shifts": return shifts(a[0]);
            case "picks": {
                if (!in(a[0], 0, 3) || !in(a[1], 0, 1) || !in(a[2], 0, (1 << s.families.size()) - 1)) return Due.BAD;
                return picks(a[0], a[1], a[2]);
            }
            case "tell": {
                if (waiting.size() == 36) return Due.FULL;
                waiting.add(a[0]);
                return waiting.size();
            }
            case "check": return check();
            case "keep": image = freeze(s); return s.today;
            case "back": {
                if (image == null) return Due.NO;
                s = thaw(image);
                return s.today;
            }
            case "sheet": {
                if (!in(a[0], 0, 1) || a[1] > 16) return Due.BAD;
                if (a[1] < 0) return Due.SIZE;
                sheets[a[0]] = new short[a[1]];
                return a[1];
            }
            case "mark": {
                if (!in(a[0], 0, 1)) return Due.BAD;
                if (sheets[a[0]] == null) return Due.NOTHING;
                if (!in(a[1], 0, sheets[a[0]].length - 1)) return Due.INDEX;
                int was = sheets[a[0]][a[1]];
                sheets[a[0]][a[1]] = (short) a[2];
                return was;
            }
            case "copy": return copy(a);
            case "count": {
                if (!in(a[0], 0, 8)) return Due.BAD;
                return new int[] {s.parts.size(), s.meals.size(), s.families.size(), s.lots.size(), s.menu.size(), s.packed ? 1 : 0, s.today,
                    waiting.size(), tape.length()}[a[0]];
            }
            default: throw new IllegalArgumentException(name);
        }
    }

    private int copy(int[] a) {
        if (!in(a[0], 0, 1) || !in(a[2], 0, 1)) return Due.BAD;
        if (sheets[a[0]] == null || sheets[a[2]] == null) return Due.NOTHING;
        long many = a[4];
        if (many < 0 || a[1] < 0 || a[1] + many > sheets[a[0]].length || a[3] < 0 || a[3] + many > sheets[a[2]].length) return Due.INDEX;
        short[] as = sheets[a[0]].clone();
        for (int i = 0; i < many; i++) sheets[a[2]][a[3] + i] = as[a[1] + i];
        return a[4];
    }

    int menuNow() { return bits(s.menu); }

    private static int pair(int a, int b) { return Math.min(a, b) * 100 + Math.max(a, b); }

    private int newPart(int allergens, int how, int keeps) {
        for (int price = 1; price <= 999 && how >= 100 && how < 100000; price++) {
            if (how / 100 != price) continue;
            int rest = how - 100 * price;
            if (!in(allergens, 0, 255) || !in(keeps, 1, 20) || rest > 39 || rest % 10 > 5) return Due.BAD;
            if (s.parts.size() == 14) return Due.FULL;
            Part p = new Part();
            p.allergens = allergens;
            p.price = price;
            p.station = rest / 10;
            p.sort = rest % 10;
            p.keeps = keeps;
            s.parts.add(p);
            return s.parts.size() - 1;
        }
        return Due.BAD;
    }

    private int newFamily(int barred, int how) {
        if (!in(barred, 0, 255)) return Due.BAD;
        for (int green = 0; green < 2; green++) for (int miles = 0; miles < 1000; miles++) for (int portions = 1; portions < 7; portions++) {
            if (10000 * green + 10 * miles + portions != how) continue;
            if (s.families.size() == 12) return Due.FULL;
            Family f = new Family();
            f.barred = barred;
            f.green = green == 1;
            f.miles = miles;
            f.portions = portions;
            s.families.add(f);
            return s.families.size() - 1;
        }
        return Due.BAD;
    }

    private boolean isOf(int m, int kind) {
        int k = s.meals.get(m).kind;
        return kind == 0 || k == kind || kind == 2 && k == 3;
    }

    private int allergens(int m) { int all = 0; for (int p : s.meals.get(m).grams.keySet()) all |= s.parts.get(p).allergens; return all; }
    private int grams(int m) { int all = 0; for (int g : s.meals.get(m).grams.values()) all += g; return all; }
    private int cost(int m) {
        int all = 0;
        for (Map.Entry<Integer, Integer> e : s.meals.get(m).grams.entrySet()) all += e.getValue() * s.parts.get(e.getKey()).price / 100;
        return all;
    }

    private boolean may(int f, int m) {
        Family who = s.families.get(f);
        return (allergens(m) & who.barred) == 0 && (!who.green || isOf(m, 2));
    }

    private int choose(int f, int meals) {
        if (!family(f) || meals < -1) return Due.BAD;
        if (meals >= 0) {
            if (Integer.bitCount(meals) > 2) return Due.BAD;
            for (int m : set(meals)) if (!s.menu.contains(m) || !may(f, m)) return Due.BAD;
        }
        if (s.packed) return Due.NO;
        Family who = s.families.get(f);
        int was = who.skipped ? -1 : bits(who.choice);
        who.skipped = meals == -1;
        who.choice = meals == -1 ? new TreeSet<>() : set(meals);
        return was;
    }

    private TreeSet<Integer> box(int f, int week) {
        Family who = s.families.get(f);
        if (week < s.today || s.packed) return set(who.boxes.getOrDefault(week, 0));
        if (who.skipped) return new TreeSet<>();
        TreeSet<Integer> box = new TreeSet<>(who.choice), ahead = set(who.boxes.getOrDefault(week - 1, 0));
        List<Integer> others = new ArrayList<>(s.menu);
        others.removeIf(m -> !may(f, m) || box.contains(m));
        others.sort(Comparator.<Integer, Boolean>comparing(ahead::contains).thenComparing(m -> -who.likes.getOrDefault(m, 5)).thenComparing(m -> m));
        for (int m : others) if (box.size() < 2) box.add(m);
        return box;
    }

    private TreeMap<Integer, Integer> needs(int f) {
        TreeMap<Integer, Integer> all = new TreeMap<>();
        for (int m : box(f, s.today)) s.meals.get(m).grams.forEach((p, g) -> all.merge(p, g * s.families.get(f).portions, Integer::sum));
        return all;
    }

    // ---- the law

    private int law() {
        String text = tape.toString();
        tape.setLength(0);
        ArrayList<String> words = new ArrayList<>();
        List<Integer> at = new ArrayList<>();
        for (int i = 0; i < text.length();) {
            int j = i + 1;
            if (text.charAt(i) == ' ') { i++; continue; }
            for (String row : new String[] {"abcdefghijklmnopqrstuvwxyz", "0123456789"}) {
                if (row.indexOf(text.charAt(i)) >= 0) while (j < text.length() && row.indexOf(text.charAt(j)) >= 0) j++;
            }
            words.add(text.substring(i, j));
            at.add(i);
            i = j;
        }
        int wrong = firstWrong(words, at);
        if (wrong >= 0) return -100 - (wrong < at.size() ? at.get(wrong) : text.length());
        int ice = words.indexOf("ice"), values = 0;
        s.mark = new ArrayList<>(words.subList(1, ice));
        s.ice = new ArrayList<>(words.subList(ice + 1, words.size()));
        for (String w : words) if (w.matches("[0-9]+|[a-z]")) values++;
        return values;
    }

    /** The number of the first word with which no text goes on; below 0 if all is right. */
    private static int firstWrong(List<String> words, List<Integer> at) {
        ArrayList<String> open = new ArrayList<>();
        ArrayList<Boolean> tested = new ArrayList<>(List.of(false));
        boolean inIce = false, wantsPart = true;
        for (int i = 0; i < words.size(); i++) {
            String w = words.get(i);
            boolean isWord = w.matches("[a-z]+|[0-9]+");
            if (isWord && i > 0 && words.get(i - 1).matches("[a-z]+|[0-9]+") && at.get(i - 1) + words.get(i - 1).length() == at.get(i)) return i;
            if (i == 0) {
                if (!w.equals("mark")) return 0;
            } else if (wantsPart) {
                if (w.equals("!") || w.equals("(")) {
                    if (Collections.frequency(open, w) == 8) return i;
                    open.add(w);
                    if (w.equals("(")) tested.add(false);
                } else if (w.matches("[0-9]{1,5}") || w.matches(inIce ? "[gmhr]" : "[gnakc]")) {
                    close(open);
                    wantsPart = false;
                } else return i;
            } else if (w.equals(")")) {
                if (open.isEmpty()) return i;
                open.remove(open.size() - 1);
                tested.remove(tested.size() - 1);
                close(open);
            } else if (w.equals("ice")) {
                if (inIce || !open.isEmpty()) return i;
                inIce = true;
                wantsPart = true;
                tested.set(0, false);
            } else if (w.matches("[<=>]")) {
                if (tested.set(tested.size() - 1, true)) return i;
                wantsPart = true;
            } else if (w.matches("[&|]")) {
                tested.set(tested.size() - 1, false);
                wantsPart = true;
            } else if (w.matches("[-+*/]")) {
                wantsPart = true;
            } else return i;
        }
        return !inIce || wantsPart || !open.isEmpty() ? words.size() : -1;
    }

    private static void close(ArrayList<String> open) {
        while (!open.isEmpty() && open.get(open.size() - 1).equals("!")) open.remove(open.size() - 1);
    }

    /** Splits at the last sign of the loosest level that stands outside of all brackets. */
    private static int worth(List<String> e, Map<String, Integer> names) {
        for (String level : new String[] {"|", "&", "<=>", "+-", "*/"}) {
            int depth = 0;
            for (int i = e.size() - 1; i > 0; i--) {
                String w = e.get(i);
                if (w.equals(")")) depth++;
                if (w.equals("(")) depth--;
                if (depth == 0 && level.contains(w)) return join(w, worth(e.subList(0, i), names), worth(e.subList(i + 1, e.size()), names));
            }
        }
        String w = e.get(0);
        if (w.equals("!")) return worth(e.subList(1, e.size()), names) == 0 ? 1 : 0;
        if (w.equals("(")) return worth(e.subList(1, e.size() - 1), names);
        return names.containsKey(w) ? names.get(w) : Integer.parseInt(w);
    }

    private static int join(String sign, int a, int b) {
        boolean x = a != 0, y = b != 0;
        switch (sign) {
            case "|": return x | y ? 1 : 0;
            case "&": return x & y ? 1 : 0;
            case "<": return a < b ? 1 : 0;
            case "=": return a == b ? 1 : 0;
            case ">": return a > b ? 1 : 0;
            case "+": return (int) ((long) a + b);
            case "-": return (int) ((long) a - b);
            case "*": return (int) ((long) a * b);
            default: return y ? (int) ((long) a / b) : 0;
        }
    }

    private int marked(int m) {
        if (s.mark == null) return 0;
        Meal meal = s.meals.get(m);
        return worth(s.mark, Map.of("g", grams(m), "n", meal.grams.size(), "a", Integer.bitCount(allergens(m)), "k", meal.kind, "c", cost(m))) == 0 ? 0 : 1;
    }

    private int ice(int f) {
        TreeSet<Integer> box = box(f, s.today);
        if (box.isEmpty() || s.ice == null) return 0;
        Family who = s.families.get(f);
        int g = 0, r = 0;
        for (int m : box) { g += grams(m); if (s.meals.get(m).kind == 3) r = 1; }
        int v = worth(s.ice, Map.of("g", g * who.portions, "m", who.miles, "h", s.heat, "r", r));
        return v < 0 ? 0 : v > 9999 ? 9999 : v;
    }

    // ---- menus

    private int kept(TreeSet<Integer> menu) {
        int many = 0;
        for (int f = 0; f < s.families.size(); f++) {
            int good = 0;
            for (int m : menu) if (may(f, m) && s.families.get(f).likes.getOrDefault(m, 5) >= 5) good++;
            if (good >= (menu.size() == 1 ? 1 : 2)) many++;
        }
        return many;
    }

    private int best(int n, int most) {
        if (!in(n, 1, 4) || !in(most, 1, 2000)) return Due.BAD;
        int tries = 0;
        List<TreeSet<Integer>> menus = new ArrayList<>();
        for (int b = 1; b < 1 << s.meals.size(); b++) {
            TreeSet<Integer> menu = set(b), tastes = new TreeSet<>();
            boolean green = false;
            for (int m : menu) { tastes.add(s.meals.get(m).taste); green |= isOf(m, 2); }
            if (menu.size() > n || tastes.size() < menu.size()) continue;
            tries++;
            if (menu.size() == n && green) menus.add(menu);
        }
        if (tries > most) return Due.SPENT;
        Comparator<TreeSet<Integer>> byNumbers = (x, y) -> Arrays.compare(ints(x), ints(y));
        Comparator<TreeSet<Integer>> order = Comparator.<TreeSet<Integer>>comparingInt(x -> -kept(x)).thenComparingInt(x -> x.stream().mapToInt(this::cost).sum());
        return menus.stream().min(order.thenComparing(byNumbers)).map(Model::bits).orElse(Due.NO);
    }

    private static int[] ints(TreeSet<Integer> set) { return set.stream().mapToInt(i -> i).toArray(); }

    // ---- lots and the plan

    private int stock(int p) { int all = 0; for (Lot lot : s.lots) if (lot.part == p) all += lot.left; return all; }

    private void spoil(Lot lot) {
        s.parts.get(lot.part).thrown += lot.left;
        lot.left = 0;
    }

    private final Map<Integer, Swap> thePlan = new HashMap<>();
    private final Map<Integer, Swap> row = new HashMap<>();
    private int planSorry, planSwaps, tries, triesMost;
    private boolean found;
    private List<Integer> boxed;
    private List<List<Swap>> ways;
    private int[] needsOfAll, stocks;

    private int plan(int most) {
        boxed = new ArrayList<>();
        ways = new ArrayList<>();
        for (int f = 0; f < s.families.size(); f++) if (!box(f, s.today).isEmpty()) { boxed.add(f); ways.add(ways(f)); }
        needsOfAll = new int[s.parts.size()];
        stocks = new int[s.parts.size()];
        for (int p = 0; p < stocks.length; p++) stocks[p] = stock(p);
        for (int f : boxed) needs(f).forEach((p, g) -> needsOfAll[p] += g);
        tries = 0;
        triesMost = most;
        found = false;
        row.clear();
        seek(0, 0, 0);
        return tries > most ? Due.SPENT : found ? 0 : Due.NO;
    }

    private List<Swap> ways(int f) {
        List<Swap> all = new ArrayList<>();
        TreeMap<Integer, Integer> needs = needs(f);
        for (int go : needs.keySet()) for (int come = 0; come < s.parts.size(); come++) {
            Part in = s.parts.get(come);
            if (needs.containsKey(come) || in.sort != s.parts.get(go).sort || (in.allergens & s.families.get(f).barred) != 0) continue;
            all.add(new Swap(go, come, needs.get(go), needs.get(go) * s.unlike.getOrDefault(pair(go, come), 50) / 100));
        }
        return all;
    }

    private void seek(int i, int sorry, int swaps) {
        if (tries > triesMost || found && (sorry > planSorry || sorry == planSorry && swaps >= planSwaps)) return;
        if (i == boxed.size()) {
            if (!fits()) return;
            found = true;
            planSorry = sorry;
            planSwaps = swaps;
            thePlan.clear();
            thePlan.putAll(row);
            return;
        }
        seek(i + 1, sorry, swaps);
        for (Swap w : ways.get(i)) {
            if (++tries > triesMost) return;
            row.put(boxed.get(i), w);
            seek(i + 1, sorry + w.sorry, swaps + 1);
            row.remove(boxed.get(i));
            if (tries > triesMost) return;
        }
    }

    private TreeMap<Integer, Integer> gets(int f, Map<Integer, Swap> plan) {
        TreeMap<Integer, Integer> all = needs(f);
        Swap w = plan.get(f);
        if (w != null) all.put(w.comes, all.remove(w.goes));
        return all;
    }

    private boolean fits() {
        int[] all = needsOfAll.clone();
        for (Swap w : row.values()) {
            all[w.goes] -= w.grams;
            all[w.comes] += w.grams;
        }
        for (int p = 0; p < all.length; p++) if (all[p] > stocks[p]) return false;
        return true;
    }

    /** Whether what is now THE PLAN is the best of all rows there are; they are all made if they are few. */
    boolean isBestPlan() {
        long rows = 1;
        for (List<Swap> w : ways) rows = Math.min(1000000, rows * (w.size() + 1));
        if (rows > 3000) return true;
        int leastSorry = -1, leastSwaps = 0;
        Map<Integer, Swap> first = new HashMap<>(), kept = new HashMap<>(row);
        for (int n = 0; n < rows; n++) {
            row.clear();
            int rest = n, sorry = 0;
            for (int i = boxed.size() - 1; i >= 0; i--) {
                int way = rest % (ways.get(i).size() + 1);
                rest /= ways.get(i).size() + 1;
                if (way == 0) continue;
                row.put(boxed.get(i), ways.get(i).get(way - 1));
                sorry += ways.get(i).get(way - 1).sorry;
            }
            if (!fits() || leastSorry >= 0 && (sorry > leastSorry || sorry == leastSorry && row.size() >= leastSwaps)) continue;
            leastSorry = sorry;
            leastSwaps = row.size();
            first = new HashMap<>(row);
        }
        row.clear();
        row.putAll(kept);
        return found ? leastSorry == planSorry && first.equals(thePlan) : leastSorry < 0;
    }

    private int pack() {
        int all = 0;
        List<TreeMap<Integer, Integer>> gets = new ArrayList<>();
        for (int f = 0; f < s.families.size(); f++) gets.add(gets(f, thePlan));
        for (int f = 0; f < s.families.size(); f++) for (int p : gets.get(f).keySet()) for (int gram = gets.get(f).get(p); gram > 0;) {
            Lot from = null;
            for (Lot lot : s.lots) if (from == null && lot.part == p && lot.left > 0) from = lot;
            int taken = Math.min(from.left, gram);
            from.left -= taken;
            from.got.add(f);
            s.parts.get(p).packed += taken;
            gram -= taken;
            all += taken;
        }
        for (int f = 0; f < s.families.size(); f++) s.families.get(f).boxes.put(s.today, bits(box(f, s.today)));
        s.packed = true;
        return all;
    }

    private int check() {
        List<Integer> told = new ArrayList<>(waiting), due = new ArrayList<>();
        waiting.clear();
        int refused = plan(5000);
        if (refused != 0) return refused;
        for (int f : new TreeSet<>(thePlan.keySet())) due.addAll(List.of(f, thePlan.get(f).goes, thePlan.get(f).comes));
        if (told.equals(due)) return 0;
        int right = 0;
        while (right < told.size() && right < due.size() && told.get(right).equals(due.get(right))) right++;
        return 1 + right;
    }

    private int end() {
        if (s.today == 99) return Due.NO;
        for (Lot lot : s.lots) if (s.today == lot.week + s.parts.get(lot.part).keeps) spoil(lot);
        s.today++;
        s.packed = false;
        s.menu.clear();
        for (Family f : s.families) { f.skipped = false; f.choice.clear(); }
        return s.today;
    }

    // ---- shifts

    private int picks(int station, int shift, int late) {
        int all = 0;
        for (int f = 0; f < s.families.size(); f++) {
            if ((late >> f & 1) != shift) continue;
            for (int p : needs(f).keySet()) if (s.parts.get(p).station == station) all++;
        }
        return all;
    }

    private int shifts(int what) {
        if (!in(what, 0, 1)) return Due.BAD;
        int[][] by = new int[s.families.size()][4];
        for (int f = 0; f < by.length; f++) for (int p : needs(f).keySet()) by[f][s.parts.get(p).station]++;
        int least = Integer.MAX_VALUE, first = 0;
        for (int late = 0; late < 1 << by.length; late++) {
            int[] picks = new int[8];
            for (int f = 0; f < by.length; f++) for (int st = 0; st < 4; st++) picks[4 * (late >> f & 1) + st] += by[f][st];
            int most = Arrays.stream(picks).max().getAsInt();
            if (most < least) { least = most; first = late; }
        }
        return what == 0 ? least : first;
    }

    // ---- images

    private static byte[] freeze(State s) {
        try {
            ByteArrayOutputStream bytes = new ByteArrayOutputStream();
            new ObjectOutputStream(bytes).writeObject(s);
            return bytes.toByteArray();
        } catch (IOException e) {
            throw new IllegalStateException(e);
        }
    }

    private static State thaw(byte[] bytes) {
        try {
            return (State) new ObjectInputStream(new ByteArrayInputStream(bytes)).readObject();
        } catch (IOException | ClassNotFoundException e) {
            throw new IllegalStateException(e);
        }
    }
}
