import java.io.IOException;
import java.nio.file.Files;
import java.nio.file.Path;
import java.util.TreeSet;

/** Compares answers with those that are due, and ends a test with exit code 1 if one was wrong. */
final class Due {
    static final int BAD = -1000000001, NO = -1000000002, FULL = -1000000003, SPENT = -1000000004;
    static final int NONE = -1000000005, NOTHING = -1000000011, INDEX = -1000000013, SIZE = -1000000014;

    private int asked = 0;
    private int wrong = 0;
    private String heading = "";
    private String document;
    private final TreeSet<Integer> promises = new TreeSet<>();

    /** What follows holds this sentence (the document's own words) of this promise. */
    void sentence(int promise, String words) {
        heading = "";
        is("the document says: " + words, folded(read()).contains(folded(words)) ? 1 : 0, 1);
        heading = "promise " + promise + ", \"" + words + "\": ";
        promises.add(promise);
    }

    private String read() {
        if (document == null) {
            try {
                document = Files.readString(Path.of("../shared/DOC.md"));
            } catch (IOException e) {
                document = "";
            }
        }
        return document;
    }

    private static String folded(String text) {
        return text.replaceAll("\\s+", " ");
    }

    void is(String call, long got, long want) {
        asked++;
        if (got == want) return;
        wrong++;
        if (wrong <= 50) System.out.println(heading + call + " answered " + got + ", due is " + want);
    }

    /** There must have been a sentence of each of these promises. */
    void named(int first, int last) {
        heading = "";
        for (int p = first; p <= last; p++) is("sentences of promise " + p, promises.contains(p) ? 1 : 0, 1);
    }

    void end() {
        System.out.println(asked + " answers, " + wrong + " not as due");
        if (wrong != 0) System.exit(1);
    }

    /** Puts a text on an empty tape. */
    static void write(DinnerBoxes x, String text) {
        StringBuilder padded = new StringBuilder(text);
        while (padded.length() % 12 != 0) padded.append(' ');
        for (int i = 0; i < padded.length(); i += 12) x.feed(four(padded, i), four(padded, i + 4), four(padded, i + 8));
        x.trim(text.length());
    }

    static int four(CharSequence text, int at) {
        int v = 0;
        for (int i = at; i < at + 4; i++) v = v << 8 | text.charAt(i) & 255;
        return v;
    }

    /** Reads a text as the law. */
    static int law(DinnerBoxes x, String text) {
        write(x, text);
        return x.law();
    }

    /** All that can be asked without a change, as one text; the law is asked by what it gives. */
    static String picture(DinnerBoxes x) {
        StringBuilder all = new StringBuilder();
        for (int what = 0; what <= 8; what++) all.append(x.count(what)).append(' ');
        int parts = x.count(0), meals = x.count(1), families = x.count(2), lots = x.count(3), today = x.count(6);
        for (int p = 0; p < parts; p++) for (int what = 0; what <= 4; what++) all.append(x.stock(p, what)).append(' ');
        for (int m = 0; m < meals; m++) for (int what = 0; what <= 6; what++) all.append(x.about(m, what)).append(' ');
        for (int f = 0; f < families; f++) {
            for (int m = 0; m < meals; m++) all.append(x.may(f, m)).append(' ');
            for (int w = 0; w <= today; w++) all.append(x.box(f, w)).append(' ');
            all.append(x.ice(f)).append(' ');
        }
        for (int l = 0; l < lots; l++) for (int what = 0; what <= 3; what++) all.append(x.told(l, what)).append(' ');
        return all.append(x.shifts(0)).append(' ').append(x.shifts(1)).append(' ').append(x.plan(5000)).toString();
    }
}
