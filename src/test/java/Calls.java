/** The calls of the face by their names, for tests that make them from a list. */
final class Calls {
    static final String[] NAMES = {"part", "unlike", "meal", "isOf", "with", "about", "family", "likes", "lay", "may", "choose", "box",
        "ice", "feed", "trim", "law", "heat", "menu", "best", "kept", "lot", "told", "stock", "plan", "swap", "pack", "recall", "end", "shifts",
        "picks", "tell", "check", "keep", "back", "sheet", "mark", "copy", "count"};
    /** How many numbers each of them takes. */
    static final int[] TAKES = {3, 3, 2, 2, 3, 2, 2, 3, 2, 2, 2, 2,
        1, 3, 1, 0, 1, 1, 2, 1, 2, 2, 2, 1, 2, 1, 1, 0, 1,
        3, 1, 0, 0, 0, 2, 3, 5, 1};

    private Calls() {
    }

    /** A call written as its name and its numbers with blanks between them. */
    static int call(DinnerBoxes x, String text) {
        String[] words = text.split(" ");
        int[] a = new int[words.length - 1];
        for (int i = 0; i < a.length; i++) a[i] = Integer.parseInt(words[i + 1]);
        return call(x, words[0], a);
    }

    static int call(DinnerBoxes x, String name, int[] a) {
        switch (name) {
            case "part": return x.part(a[0], a[1], a[2]);
            case "unlike": return x.unlike(a[0], a[1], a[2]);
            case "meal": return x.meal(a[0], a[1]);
            case "isOf": return x.isOf(a[0], a[1]);
            case "with": return x.with(a[0], a[1], a[2]);
            case "about": return x.about(a[0], a[1]);
            case "family": return x.family(a[0], a[1]);
            case "likes": return x.likes(a[0], a[1], a[2]);
            case "lay": return x.lay(a[0], a[1]);
            case "may": return x.may(a[0], a[1]);
            case "choose": return x.choose(a[0], a[1]);
            case "box": return x.box(a[0], a[1]);
            case "ice": return x.ice(a[0]);
            case "feed": return x.feed(a[0], a[1], a[2]);
            case "trim": return x.trim(a[0]);
            case "law": return x.law();
            case "heat": return x.heat(a[0]);
            case "menu": return x.menu(a[0]);
            case "best": return x.best(a[0], a[1]);
            case "kept": return x.kept(a[0]);
            case "lot": return x.lot(a[0], a[1]);
            case "told": return x.told(a[0], a[1]);
            case "stock": return x.stock(a[0], a[1]);
            case "plan": return x.plan(a[0]);
            case "swap": return x.swap(a[0], a[1]);
            case "pack": return x.pack(a[0]);
            case "recall": return x.recall(a[0]);
            case "end": return x.end();
            case "shifts": return x.shifts(a[0]);
            case "picks": return x.picks(a[0], a[1], a[2]);
            case "tell": return x.tell(a[0]);
            case "check": return x.check();
            case "keep": return x.keep();
            case "back": return x.back();
            case "sheet": return x.sheet(a[0], a[1]);
            case "mark": return x.mark(a[0], a[1], a[2]);
            case "copy": return x.copy(a[0], a[1], a[2], a[3], a[4]);
            case "count": return x.count(a[0]);
            default: throw new IllegalArgumentException(name);
        }
    }
}
