import java.io.IOException;
import java.io.UncheckedIOException;
import java.nio.file.Files;
import java.nio.file.Path;
import java.util.ArrayList;
import java.util.List;

/**
 * One promise of the document, or its terms: each clause of it is said in the document's own words together with the
 * test that would fail if it were broken. At the end no word of it may be left that was not said.
 */
final class Promise {
    private static final Path DOCUMENT = Path.of(System.getProperty("shared"), "DOC.md");

    private final String name;
    private final String text;
    private final boolean[] said;

    private Promise(String name, String text) {
        this.name = name;
        this.text = text;
        said = new boolean[text.length()];
    }

    /** What stands behind the signature of a promise. */
    static Promise number(int number) {
        String all = String.join(" ", linesUnder("## Promise " + number + ":"));
        return new Promise("promise " + number, all.substring(all.indexOf("`: ") + "`: ".length()).trim());
    }

    /** The terms and constants, and how long an object is used; what the interface says ahead of calls is left out. */
    static Promise terms() {
        List<String> lines = linesUnder("## What it is");
        lines.removeIf(line -> !line.startsWith("An object is used"));
        for (String line : linesUnder("## Terms")) {
            if (!line.startsWith("Ahead of the calls") && !line.startsWith("```")) {
                lines.add(line.trim());
            }
        }
        return new Promise("terms", String.join(" ", lines));
    }

    private static List<String> linesUnder(String heading) {
        List<String> lines = new ArrayList<>();
        boolean within = false;
        try {
            for (String line : Files.readAllLines(DOCUMENT)) {
                if (line.startsWith("## ")) {
                    within = line.startsWith(heading);
                } else if (within && !line.isBlank()) {
                    lines.add(line);
                }
            }
        } catch (IOException e) {
            throw new UncheckedIOException(e);
        }
        return lines;
    }

    void says(String words, Runnable test) {
        Check.about(name + ": " + words);
        int at = text.indexOf(words);
        Check.is("the document says this", 1, at >= 0 ? 1 : 0);
        while (at >= 0) {
            for (int i = at; i < at + words.length(); i++) {
                said[i] = true;
            }
            at = text.indexOf(words, at + words.length());
        }
        int checks = Check.checksSoFar();
        test.run();
        Check.is("the test looks at something", 1, Check.checksSoFar() > checks ? 1 : 0);
    }

    void end() {
        StringBuilder left = new StringBuilder();
        for (int i = 0; i < text.length(); i++) {
            left.append(said[i] ? "" : text.substring(i, i + 1));
        }
        Check.about(name);
        Check.isText("what no test says", "", left.toString().trim());
        Check.end();
    }
}
