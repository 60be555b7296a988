import java.util.Random;

/** Runs of 512 random calls, the same ones each time, on the class and on the model beside it. */
public final class ModelTest {
    private static final int RUNS = 400, CALLS = 512;
    private static final String[] NAMES = Calls.NAMES;
    private static final int[] TAKES = Calls.TAKES;
    private static final int[] ODD = {Integer.MIN_VALUE, Integer.MAX_VALUE, -1, -2, 1 << 30, 100000, 5001, 2001, 256, 100, 16, 17, 12, 14, 10, 40, 0};
    private static final String[] EVENTS = {"best no", "best spent", "box more", "check 0", "check more", "check no", "check spent", "choose less",
        "choose more", "choose no", "copy more", "ice more", "kept more", "law less", "law more", "lay more", "menu no", "pack more", "pack no",
        "pack spent", "picks more", "plan more", "plan no", "plan spent", "recall more", "shifts more", "swap more", "swap no", "swap spent", "with no"};
    private static final Due due = new Due();
    private static final int[] answered = new int[NAMES.length], refused = new int[NAMES.length];

    private static final java.util.Map<String, Integer> events = new java.util.TreeMap<>();

    private static Random random;
    private static DinnerBoxes x;
    private static Model model;
    private static int calls;

    public static void main(String[] args) {
        for (int run = 0; run < RUNS; run++) run(run);
        for (int i = 0; i < NAMES.length; i++) {
            if (answered[i] < 50) due.is(NAMES[i] + " was seldom answered", answered[i], 50);
            if (refused[i] < 20 && !"law keep shifts count".contains(NAMES[i]) && !NAMES[i].equals("check")) due.is(NAMES[i] + " was seldom refused", refused[i], 20);
        }
        for (String event : EVENTS) {
            if (events.getOrDefault(event, 0) < 40) due.is("the runs seldom came by: " + event, events.getOrDefault(event, 0), 40);
        }
        due.end();
    }

    private static int any(int below) {
        return random.nextInt(below);
    }

    private static int has(int what) {
        return model.call("count", new int[] {what});
    }

    /** One of so many, now and then one too many. */
    private static int one(int many) {
        return any(25) == 0 ? many : any(Math.max(1, many));
    }

    private static int bits(int places, int most) {
        int b = 0;
        for (int i = any(most + 1); i > 0; i--) b |= 1 << any(Math.max(1, places));
        return b;
    }

    private static void run(int run) {
        random = new Random(run);
        x = new DinnerBoxes();
        model = new Model();
        calls = 0;
        boolean scarce = any(2) == 0;
        int parts = 1 + any(run % 2 == 0 ? 6 : 14), meals = 1 + any(10), families = 1 + any(run % 2 == 0 ? 5 : 12), sorts = 1 + any(3);
        for (int p = 0; p < parts; p++) ask("part", any(4) == 0 ? any(256) : 1 << any(8) & 7, 100 * (1 + any(any(3) == 0 ? 999 : 9)) + 10 * any(4) + any(sorts), 1 + any(4));
        for (int m = 0; m < meals; m++) {
            ask("meal", any(4), any(1 + any(16)));
            for (int i = any(7); i > 0; i--) ask("with", m, any(parts), 1 + any(any(2) == 0 ? 9 : 999));
        }
        for (int f = 0; f < families; f++) ask("family", any(3) == 0 ? 1 << any(8) : 0, 10000 * (any(5) / 4) + 10 * any(1000) + 1 + any(6));
        if (run % 8 == 0) for (int w = any(2) * 90; w < 99; w++) ask("end");
        while (calls < CALLS) step(scarce);
    }

    private static void step(boolean scarce) {
        int parts = has(0), meals = has(1), families = has(2), lots = has(3), today = has(6);
        if (has(4) == 0 && has(5) == 0 && any(2) == 0) ask("menu", bits(meals, 2) | bits(meals, 3) | bits(meals, 3));
        if (has(5) == 1 && any(12) == 0) ask("end");
        switch (any(30)) {
            case 0: ask("menu", bits(meals, 5)); break;
            case 1: ask("choose", one(families), any(4) == 0 ? -1 : bits(meals, 2)); break;
            case 2: ask("likes", one(families), one(meals), any(10)); break;
            case 3: ask("unlike", one(parts), one(parts), 1 + any(99)); break;
            case 4: ask("lot", one(parts), 1 + any(scarce ? 900 : 20000)); break;
            case 5: provide(parts, scarce); break;
            case 6: if (any(has(4) == 0 ? 9 : 2) == 0) ask("pack", any(2) == 0 ? 5000 : 1 + any(400)); break;
            case 7: if (any(3) == 0) ask("end"); break;
            case 8: ask("plan", any(3) > 0 ? 5000 : 1 + any(60)); break;
            case 9: ask("swap", any(3) > 0 ? 5000 : 1 + any(60), one(families)); break;
            case 10: rows(families); break;
            case 11: ask("shifts", one(2)); break;
            case 12: ask("picks", one(4), one(2), bits(families, 5)); break;
            case 13: ask("best", one(4) + 1, any(3) > 0 ? 2000 : 1 + any(200)); break;
            case 14: ask("kept", bits(meals, 5)); break;
            case 15: if (any(3) == 0) law(); break;
            case 16: ask("choose", any(Math.max(1, families)), menuBits(meals)); break;
            case 17: ask("about", one(meals), one(7)); break;
            case 18: ask("ice", one(families)); break;
            case 19: case 20: ask("box", one(families), one(today + 1)); break;
            case 21: ask("stock", one(parts), one(5)); break;
            case 22: ask("told", one(lots), one(4)); break;
            case 23: if (any(3) == 0) ask("recall", one(lots)); break;
            case 24: ask("heat", one(61)); break;
            case 25: ask(any(2) == 0 ? "may" : "isOf", one(families), one(meals)); break;
            case 26: sheets(families); break;
            case 27: ask("with", one(meals), one(parts), 1 + any(200)); break;
            case 28: image(); break;
            default: odd();
        }
    }

    /** Up to two meals of the menu, or none, or -1. */
    private static int menuBits(int meals) {
        int b = 0;
        for (int m = 0; m < meals; m++) {
            if (Integer.bitCount(b) < 2 && any(3) == 0) b |= 1 << m & model.menuNow();
        }
        return any(5) == 0 ? -1 : b;
    }

    /** Lots that are about what is needed, some a little short of it. */
    private static void provide(int parts, boolean scarce) {
        for (int p = 0; p < parts; p++) {
            int lacks = model.call("stock", new int[] {p, 1}) - model.call("stock", new int[] {p, 0});
            if (lacks <= 0 && any(3) > 0) continue;
            ask("lot", p, Math.max(1, lacks + any(scarce ? 400 : 3000) - any(5) / 4 * any(scarce ? 900 : 300)));
        }
    }

    private static void image() {
        int what = any(6);
        if (what == 0) ask("keep");
        else if (what == 1) ask("back");
        else ask("count", one(9));
    }

    private static void sheets(int families) {
        switch (any(4)) {
            case 0: ask("sheet", one(2), any(18) - 1); break;
            case 1: ask("mark", one(2), one(17), any(3) == 0 ? random.nextInt() : any(11)); break;
            case 2: ask("copy", one(2), any(6), one(2), any(6), any(9) - 1); break;
            default: ask("lay", one(families), one(2));
        }
    }

    private static void rows(int families) {
        if (any(3) > 0) {
            for (int f = 0; f < families && calls < CALLS - 40; f++) {
                int swap = model.call("swap", new int[] {5000, f});
                if (swap < 0) continue;
                ask("tell", any(9) == 0 ? any(9) : f);
                ask("tell", any(9) == 0 ? any(9) : swap / 100);
                if (any(9) > 0) ask("tell", swap % 100);
            }
        }
        if (any(9) == 0) for (int i = any(40); i > 0; i--) ask("tell", any(5));
        ask("check");
    }

    private static void law() {
        String text = any(8) == 0 ? "" : sometimes("mark") + e(4, "gnakc") + sometimes("ice") + e(4, "gmhr");
        if (any(3) == 0 && text.length() > 0) {
            int at = any(text.length());
            String signs = " !()+-*/<=>&|019gmhrkicez,A";
            text = text.substring(0, at) + signs.charAt(any(signs.length())) + text.substring(at + any(2));
        }
        text = text.substring(0, Math.min(120, text.length()));
        if (any(6) == 0) for (int i = 0; i < 9; i++) ask("feed", random.nextInt(), 0, 0);
        else ask("trim", 0);
        for (int i = 0; i < text.length(); i += 12) {
            String row = (text.substring(i) + "            ").substring(0, 12);
            ask("feed", Due.four(row, 0), Due.four(row, 4), Due.four(row, 8));
        }
        ask("trim", text.length() - (any(12) == 0 && text.length() > 0 ? 1 : 0));
        ask("law");
    }

    private static String sometimes(String word) {
        return (any(40) == 0 ? "" : word) + (any(40) == 0 ? "" : " ");
    }

    private static String e(int depth, String names) {
        int what = any(depth > 0 ? 9 : 3);
        String blank = any(4) == 0 ? " " : "";
        if (what == 0) return any(any(9) == 0 ? 200000 : 1000) + " ";
        if (what <= 2) return names.charAt(any(names.length())) + " ";
        if (what == 3) return "!!!!!!!!!".substring(any(9)) + blank + e(0, names);
        if (what == 4) return "((((((((".substring(8 - Math.min(8, 1 + any(3) * any(4))) + blank + e(depth - 1, names) + ")" + blank;
        if (what == 5) return "!(" + e(depth - 1, names) + ")";
        String sign = "+-*/<=>&|".charAt(any(9)) + blank;
        return any(2) == 0 ? "(" + e(depth - 1, names) + sign + e(depth - 1, names) + ")" : e(depth - 1, names) + sign + e(depth - 1, names);
    }

    /** A call with numbers that no sense chose. */
    private static void odd() {
        int i = any(NAMES.length);
        int[] a = new int[TAKES[i]];
        for (int k = 0; k < a.length; k++) a[k] = any(2) == 0 ? any(4) : any(2) == 0 ? ODD[any(ODD.length)] : any(300);
        if (NAMES[i].equals("end") || NAMES[i].equals("law") && any(3) > 0) return;
        askWith(NAMES[i], a);
    }

    private static void ask(String name, int... a) {
        for (int i = 0; i < NAMES.length; i++) {
            if (NAMES[i].equals(name)) askWith(name, java.util.Arrays.copyOf(a, TAKES[i]));
        }
    }

    private static void askWith(String name, int[] a) {
        if (calls >= CALLS) return;
        calls++;
        int want = model.call(name, a);
        boolean isRefused = want <= Due.BAD && want >= Due.SIZE && want != Due.NONE;
        boolean looks = isRefused && !name.equals("check") && any(20) == 0;
        String before = looks ? Due.picture(x) : "";
        int got = Calls.call(x, name, a);
        due.is("call " + calls + ": " + name + java.util.Arrays.toString(a), got, want);
        if (looks) due.is(name + " is refused and changes nothing", Due.picture(x).equals(before) ? 1 : 0, 1);
        if (name.equals("plan") && (want >= 0 || want == Due.NO)) due.is("the plan is the best of all rows", model.isBestPlan() ? 1 : 0, 1);
        note(name, want);
        for (int i = 0; i < NAMES.length; i++) {
            if (NAMES[i].equals(name)) (isRefused ? refused : answered)[i]++;
        }
    }

    /** Counts what the runs came by, so that it is seen if they come by too little. */
    private static void note(String name, int answer) {
        String what = answer == Due.SPENT ? " spent" : answer == Due.NO ? " no" : answer == 0 ? " 0" : answer > 0 ? " more" : " less";
        events.merge(name + what, 1, Integer::sum);
    }
}
