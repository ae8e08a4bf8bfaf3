import java.io.IOException;
import java.io.UncheckedIOException;
import java.lang.reflect.Method;
import java.lang.reflect.Modifier;
import java.nio.file.Files;
import java.nio.file.Path;
import java.util.ArrayList;
import java.util.List;
import java.util.Map;
import java.util.Set;
import java.util.TreeSet;
import java.util.regex.Matcher;
import java.util.regex.Pattern;

/** README.md tells calls and answers that the class really gives, one object through all of them, in their order. */
public final class ReadmeTest {
    private static final Path PROJECT = Path.of(System.getProperty("project"));
    private static final String FIRST_LINE = "SliceColumns x = new SliceColumns();";
    /** A call, its answer, what is looked at behind it, and a word on it. */
    private static final Pattern TOLD =
            Pattern.compile("(?:int (\\w+) = )?x\\.(\\w+\\([^)]*\\)); +// ([^;(]+?)((?:; [^;(]+?)*)(?: \\(.*\\))?");
    /** Columns by the names that the page gives them. */
    private static final Map<String, Integer> COLUMNS = Map.of("price", 0, "stock", 1);

    private static final Run RUN = new Run();
    private static final Set<String> CALLED = new TreeSet<>();

    public static void main(String[] args) {
        boolean begun = false;
        for (String line : linesOfJava()) {
            if (line.equals(FIRST_LINE)) {
                begun = true;
            } else if (begun && (line.startsWith("x.") || line.startsWith("int "))) {
                told(line);
            } else {
                standsInATest(line);
            }
        }
        Check.about("README.md");
        Check.is("the page begins with a new object", 1, begun ? 1 : 0);
        Check.isText("calls of the face", String.join(" ", face()), String.join(" ", CALLED));
        Check.end();
    }

    private static List<String> linesOfJava() {
        List<String> lines = new ArrayList<>();
        boolean within = false;
        for (String line : linesOf(PROJECT.resolve("README.md"))) {
            if (line.startsWith("```")) {
                within = line.equals("```java");
            } else if (within && !line.isBlank()) {
                lines.add(line);
            }
        }
        return lines;
    }

    private static List<String> linesOf(Path file) {
        try {
            return Files.readAllLines(file);
        } catch (IOException e) {
            throw new UncheckedIOException(e);
        }
    }

    private static Set<String> face() {
        Set<String> names = new TreeSet<>();
        for (Method method : SliceColumns.class.getDeclaredMethods()) {
            if (Modifier.isPublic(method.getModifiers())) {
                names.add(method.getName());
            }
        }
        return names;
    }

    private static void told(String line) {
        Check.about("README.md: " + line);
        Matcher parts = TOLD.matcher(line);
        if (!parts.matches()) {
            Check.isText("a line that tells a call", TOLD.pattern(), line);
            return;
        }
        String call = withNumbers(parts.group(2));
        CALLED.add(call.substring(0, call.indexOf('(')));
        answered(call, parts.group(3));
        if (parts.group(1) != null) {
            Check.isText("the column's number", String.valueOf(COLUMNS.get(parts.group(1))), parts.group(3));
        }
        for (String shown : parts.group(4).split("; ")) {
            if (!shown.isEmpty()) {
                looksLike(shown);
            }
        }
    }

    private static String withNumbers(String call) {
        String text = call.replace("SliceColumns.", "");
        for (Map.Entry<String, Integer> column : COLUMNS.entrySet()) {
            text = text.replaceAll("\\b" + column.getKey() + "\\b", column.getValue().toString());
        }
        return text;
    }

    private static void answered(String call, String answer) {
        switch (answer) {
            case "throws IndexOutOfBoundsException" -> RUN.refused(call, Run.INDEX);
            case "throws IllegalArgumentException" -> RUN.refused(call, Run.ARGUMENT);
            case "throws IllegalStateException" -> RUN.refused(call, Run.STATE);
            case "throws ArithmeticException" -> RUN.doesNotFit(call);
            case "NONE" -> RUN.due(call, SliceColumns.NONE);
            case "NOTHING" -> RUN.due(call, SliceColumns.NOTHING);
            default -> RUN.due(call, Long.parseLong(answer));
        }
    }

    /** "price: 40 - 7" or "mask 3: 0 4" or "mask 3: none". */
    private static void looksLike(String shown) {
        String[] parts = shown.split(": ");
        if (parts[0].startsWith("mask ")) {
            RUN.mask(Integer.parseInt(parts[0].substring("mask ".length())), parts[1].equals("none") ? "" : parts[1]);
        } else {
            RUN.column(COLUMNS.get(parts[0]), parts[1]);
        }
    }

    /** What the page tells of the tests is taken from Promise48FillTest. */
    private static void standsInATest(String line) {
        Check.about("README.md");
        boolean stands = false;
        for (String other : linesOf(PROJECT.resolve("src/test/java/Promise48FillTest.java"))) {
            stands = stands || other.trim().equals(line);
        }
        Check.is("a test has the line " + line, 1, stands ? 1 : 0);
    }
}
