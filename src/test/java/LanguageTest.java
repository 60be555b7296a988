import java.io.DataInputStream;
import java.io.IOException;
import java.lang.management.ManagementFactory;
import java.lang.reflect.Field;
import java.lang.reflect.Method;
import java.lang.reflect.Modifier;
import java.nio.file.Files;
import java.nio.file.Path;
import java.util.ArrayList;
import java.util.List;
import java.util.Set;
import java.util.TreeSet;
import java.util.regex.Matcher;
import java.util.regex.Pattern;

/** What of LANGUAGE.md can be read off the source and the compiled class, and that calls make no objects. */
public final class LanguageTest {
    private static final Set<String> FACE = Set.of(Calls.NAMES);
    private static final Set<String> CONSTANTS = Set.of("BAD", "NO", "FULL", "SPENT", "NONE", "NOTHING", "INDEX", "SIZE");
    private static final Set<String> IMPORTS = Set.of("java.util.Arrays", "java.util.ArrayList", "java.util.List", "java.util.Iterator");
    private static final Set<String> LIBRARY = Set.of("java/lang/Object.<init>", "java/lang/System.arraycopy", "java/util/Arrays.fill",
        "java/util/Arrays.copyOf", "java/util/Arrays.copyOfRange", "java/lang/Math.min", "java/lang/Math.max", "java/lang/Math.abs",
        "java/lang/Integer.bitCount", "java/lang/Integer.compare", "java/lang/String.length", "java/lang/String.charAt", "java/lang/String.indexOf");
    private static final Due due = new Due();

    public static void main(String[] args) throws IOException, NoSuchMethodException {
        String text = Files.readString(Path.of("src/main/java/DinnerBoxes.java"));
        face();
        document(Files.readString(Path.of("../shared/DOC.md")), text);
        classes();
        source(text);
        library();
        callsMakeNothing();
        due.end();
    }

    private static void holds(String what, boolean is) {
        due.is(what, is ? 1 : 0, 1);
    }

    private static void face() {
        Set<String> methods = new TreeSet<>(), constants = new TreeSet<>();
        for (Method m : DinnerBoxes.class.getDeclaredMethods()) {
            if (Modifier.isPrivate(m.getModifiers())) {
                holds("private " + m.getName() + " is not of the face", !FACE.contains(m.getName()));
            } else {
                holds(m.getName() + " is public", Modifier.isPublic(m.getModifiers()) && m.getReturnType() == int.class && methods.add(m.getName()));
            }
        }
        for (Field f : DinnerBoxes.class.getDeclaredFields()) if (!Modifier.isPrivate(f.getModifiers())) constants.add(f.getName());
        holds("the methods of the face: " + methods, methods.equals(FACE));
        holds("the constants of the face: " + constants, constants.equals(CONSTANTS));
        holds("one constructor", DinnerBoxes.class.getDeclaredConstructors().length == 1 && DinnerBoxes.class.getConstructors().length == 1);
        holds("final", Modifier.isFinal(DinnerBoxes.class.getModifiers()));
    }

    /** The document's face line by line, and its headings ahead of the calls that it names. */
    private static void document(String text, String source) throws NoSuchMethodException {
        Matcher calls = Pattern.compile("    public int (\\w+)\\(([^)]*)\\);").matcher(text);
        int many = 0;
        for (; calls.find(); many++) {
            String[] takes = calls.group(2).isEmpty() ? new String[0] : calls.group(2).split(", ");
            for (String one : takes) holds(calls.group(1) + " takes " + one, one.startsWith("int "));
            Class<?>[] ints = new Class<?>[takes.length];
            java.util.Arrays.fill(ints, int.class);
            Method m = DinnerBoxes.class.getMethod(calls.group(1), ints);
            holds(m + " is of the object", !Modifier.isStatic(m.getModifiers()));
            holds(m + " as the document writes it", source.contains("    public int " + calls.group(1) + "(" + calls.group(2) + ") {"));
        }
        holds("calls of the document: " + many, many == FACE.size());
        int at = 0;
        Matcher headings = Pattern.compile("Ahead of the calls (.*) the interface says: (.*)\\.").matcher(text);
        while (headings.find()) {
            List<String> rows = new ArrayList<>(List.of("    // " + headings.group(2) + "\n"));
            for (String name : headings.group(1).replace("`", "").split(", ")) rows.add("    public int " + name + "(");
            for (String row : rows) {
                int next = source.indexOf(row, at);
                holds("in its order: " + row.strip(), next >= at);
                at = Math.max(at, next);
            }
        }
        holds("headings of the document", at > 0);
    }

    private static void classes() {
        List<Class<?>> all = new ArrayList<>(List.of(DinnerBoxes.class.getDeclaredClasses()));
        holds("some twelve classes", all.size() <= 12);
        for (Class<?> c : all) {
            holds(c + " is static and private", Modifier.isStatic(c.getModifiers()) && Modifier.isPrivate(c.getModifiers()));
            for (Method m : c.getDeclaredMethods()) holds(c + " " + m.getName() + " is not of the face", !FACE.contains(m.getName()));
        }
        all.add(DinnerBoxes.class);
        for (Class<?> c : all) {
            int fields = 0;
            for (Field f : c.getDeclaredFields()) {
                if (!Modifier.isStatic(f.getModifiers())) fields++;
                else holds(c + " " + f.getName() + " is final", Modifier.isFinal(f.getModifiers()));
            }
            holds(c + " has some twenty fields", fields <= 20);
            for (Method m : c.getDeclaredMethods()) holds(m + " takes seven at most", m.getParameterCount() <= 7);
        }
    }

    private static void source(String text) {
        String code = text.replaceAll("(?s)/\\*.*?\\*/", "").replaceAll("//[^\n]*", "").replaceAll("\"[^\"\n]*\"", "\"\"");
        String[] never = {"throw", "throws", "try", "catch", "synchronized", "assert", "native", "package", "equals", "hashCode", "toString", "Object", "System.out",
            "Exception", "Error", "Math\\.\\w+Exact", "Random", "Thread", "static \\{"};
        for (String word : never) holds("no " + word, !Pattern.compile("\\b" + word + "(\\b|(?<=\\{))").matcher(code).find());
        holds("no lambda", !code.contains("->"));
        holds("no method reference", !code.contains("::"));
        holds("no annotation", !code.contains("@"));
        holds("no constants of the library", !Pattern.compile("\\b(Integer|Long|Math|Short|Character)\\.[A-Z]").matcher(code).find());
        Matcher imports = Pattern.compile("import ([\\w.]+);").matcher(code);
        while (imports.find()) holds("import " + imports.group(1), IMPORTS.contains(imports.group(1)));
        int open = 0, start = 0, line = 0;
        for (String row : code.split("\n")) {
            line++;
            boolean begins = row.matches(" {4}( {4})?[\\w\\[\\]<> ]+\\([^;]*\\) \\{");
            if (begins) start = line;
            if (row.matches(" {4}( {4})?\\}") && start > 0) {
                open = Math.max(open, line - start);
                start = 0;
            }
        }
        holds("no method has more than sixty lines", open > 5 && open <= 60);
    }

    /** What the compiled classes use of the library, read off their constants, is what rule 4 lets them use. */
    private static void library() throws IOException {
        List<Class<?>> all = new ArrayList<>(List.of(DinnerBoxes.class.getDeclaredClasses()));
        all.add(DinnerBoxes.class);
        for (Class<?> c : all) {
            try (DataInputStream in = new DataInputStream(c.getResourceAsStream(c.getName() + ".class"))) {
                for (String used : usedBy(in)) holds(c + " uses " + used, !used.startsWith("java/") || LIBRARY.contains(used));
            }
        }
    }

    /** The methods and fields that a class file names, and "java/dynamic" for a lambda or texts joined by +. */
    private static Set<String> usedBy(DataInputStream in) throws IOException {
        in.skipBytes(8);
        int many = in.readUnsignedShort();
        String[] texts = new String[many];
        int[][] pairs = new int[many][];
        int[] tags = new int[many];
        for (int i = 1; i < many; i++) {
            tags[i] = in.readUnsignedByte();
            switch (tags[i]) {
                case 1: texts[i] = in.readUTF(); break;
                case 3: case 4: in.readInt(); break;
                case 5: case 6: in.readLong(); i++; break;
                case 15: in.skipBytes(3); break;
                case 7: case 8: case 16: case 19: case 20: pairs[i] = new int[] {in.readUnsignedShort(), 0}; break;
                default: pairs[i] = new int[] {in.readUnsignedShort(), in.readUnsignedShort()};
            }
        }
        Set<String> used = new TreeSet<>();
        for (int i = 1; i < many; i++) {
            if (tags[i] == 9 || tags[i] == 10 || tags[i] == 11) used.add(texts[pairs[pairs[i][0]][0]] + "." + texts[pairs[pairs[i][1]][0]]);
            if (tags[i] == 17 || tags[i] == 18) used.add("java/dynamic");
        }
        return used;
    }

    private static long made() {
        return ((com.sun.management.ThreadMXBean) ManagementFactory.getThreadMXBean()).getCurrentThreadAllocatedBytes();
    }

    private static void callsMakeNothing() {
        DinnerBoxes x = new DinnerBoxes();
        everyCall(x);
        long before = made();
        for (int i = 0; i < 20; i++) everyCall(x);
        long bytes = made() - before;
        holds("calls make no objects: " + bytes + " bytes", bytes < 4000);
        before = made();
        x = new DinnerBoxes();
        x.keep();
        bytes = made() - before;
        holds("an object and its image are small: " + bytes + " bytes", bytes < 60000);
    }

    private static void everyCall(DinnerBoxes x) {
        x.part(0, 100, 1);
        x.unlike(0, 1, 7);
        x.meal(2, 0);
        x.isOf(0, 1);
        x.with(0, 0, 10);
        for (int i = 0; i < 7; i++) x.about(0, i);
        x.family(0, 1);
        x.likes(0, 0, 7);
        x.sheet(0, 5);
        x.mark(0, 1, 7);
        x.copy(0, 0, 0, 1, 2);
        x.lay(0, 0);
        x.may(0, 0);
        x.feed(1835102827, 540090473, 1667571769);
        x.trim(12);
        x.law();
        x.heat(3);
        x.menu(1);
        x.choose(0, 1);
        x.box(0, 0);
        x.ice(0);
        x.best(1, 200);
        x.kept(1);
        x.lot(0, 100);
        x.told(0, 1);
        for (int i = 0; i < 5; i++) x.stock(0, i);
        x.plan(5000);
        x.swap(5000, 0);
        x.shifts(0);
        x.picks(0, 0, 0);
        x.tell(1);
        x.check();
        x.keep();
        x.pack(5000);
        x.recall(0);
        x.end();
        x.back();
        x.count(1);
    }
}
