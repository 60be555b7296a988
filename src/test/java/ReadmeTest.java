import java.io.IOException;
import java.nio.file.Files;
import java.nio.file.Path;
import java.util.Map;
import java.util.TreeSet;
import java.util.regex.Matcher;
import java.util.regex.Pattern;

/** README.md's examples answer what stands behind them, and every call of the face stands in one of them. */
public final class ReadmeTest {
    private static final Pattern BLOCK = Pattern.compile("(?s)```java\n(.*?)```");
    private static final Pattern CALL = Pattern.compile("x\\.(\\w+)\\(([^)]*)\\); +// (-?\\d+|[A-Z]+)(:.*)?");
    private static final String NEW = "DinnerBoxes x = new DinnerBoxes();";
    private static final Map<String, Integer> NAMED = Map.of("BAD", Due.BAD, "NO", Due.NO, "FULL", Due.FULL, "SPENT", Due.SPENT,
        "NONE", Due.NONE, "NOTHING", Due.NOTHING, "INDEX", Due.INDEX, "SIZE", Due.SIZE);
    private static final Due due = new Due();
    private static final TreeSet<String> made = new TreeSet<>();

    public static void main(String[] args) throws IOException {
        String page = Files.readString(Path.of("README.md"));
        Matcher blocks = BLOCK.matcher(page);
        int many = 0;
        while (blocks.find()) {
            many++;
            run(many, blocks.group(1).split("\n"));
        }
        due.is("examples", many > 0 ? 1 : 0, 1);
        for (String name : Calls.NAMES) due.is(name + " stands in an example", made.contains(name) ? 1 : 0, 1);
        for (String name : NAMED.keySet()) due.is(name + " is told", page.contains("`" + name + "`") ? 1 : 0, 1);
        due.is("how tests are run", page.contains(".ci/run") ? 1 : 0, 1);
        tests(page);
        due.end();
    }

    private static void run(int example, String[] lines) {
        DinnerBoxes x = null;
        for (String line : lines) {
            Matcher call = CALL.matcher(line);
            if (line.equals(NEW)) {
                x = new DinnerBoxes();
            } else if (x == null || !call.matches()) {
                due.is("example " + example + " has no other rows than calls: " + line, 0, 1);
            } else {
                made.add(call.group(1));
                due.is("example " + example + ": " + line, Calls.call(x, call.group(1), numbers(call.group(2))), answer(call.group(3)));
            }
        }
    }

    private static int[] numbers(String text) {
        if (text.isBlank()) return new int[0];
        String[] words = text.split(", *");
        int[] all = new int[words.length];
        for (int i = 0; i < all.length; i++) all[i] = Integer.decode(words[i]);
        return all;
    }

    private static int answer(String text) {
        return NAMED.containsKey(text) ? NAMED.get(text) : Integer.parseInt(text);
    }

    /** The page names each test, but that the ..EdgesTests are named together. */
    private static void tests(String page) throws IOException {
        try (var files = Files.newDirectoryStream(Path.of("src/test/java"), "*Test.java")) {
            for (Path file : files) {
                String name = file.getFileName().toString().replace(".java", "");
                if (!name.endsWith("EdgesTest")) due.is(name + " is named", page.contains("`" + name + "`") ? 1 : 0, 1);
            }
        }
    }
}
