import java.io.IOException;
import java.nio.file.Files;
import java.nio.file.Path;
import java.util.ArrayDeque;
import java.util.ArrayList;
import java.util.Collections;
import java.util.Deque;
import java.util.HashSet;
import java.util.List;
import java.util.Set;
import java.util.regex.Matcher;
import java.util.regex.Pattern;

/**
 * The class's text keeps to LANGUAGE.md, as far as its tokens show it. This is narrower than the rules: what they allow
 * but the class has no need of (try, recursion, lists, doubles) is refused here, too.
 */
public final class LanguageTest {
    private static final Path SOURCE = Path.of(System.getProperty("project"), "src/main/java/SliceColumns.java");
    private static final Pattern COMMENT = Pattern.compile("(?s)/\\*.*?\\*/|//[^\\n]*");
    private static final Pattern TOKEN = Pattern.compile(
            "\\n|\"(?:\\\\.|[^\"\\\\])*\"|'(?:\\\\.|[^'\\\\])*'|\\w+|->|::|[-+*/%&|^!=<>]=|&&|\\|\\||\\S");

    private static final Set<String> NOT_HERE = Set.of("package", "import", "protected", "synchronized", "assert",
            "try", "catch", "finally", "volatile", "transient", "native", "strictfp", "double", "float", "instanceof",
            "record", "interface", "enum", "extends", "implements", "goto", "var", "yield", "->", "::", "@", "equals",
            "hashCode", "toString", "getClass", "Object", "Thread");
    private static final Set<String> EXCEPTIONS = Set.of("IllegalStateException", "IllegalArgumentException",
            "IndexOutOfBoundsException", "ArithmeticException");
    private static final Set<String> LIBRARY = Set.of("Math.max", "Math.min", "Math.abs", "Math.floorDiv",
            "Math.floorMod", "Long.bitCount", "Long.MIN_VALUE", "Long.MAX_VALUE", "System.arraycopy");
    private static final Set<String> AHEAD_OF_BRACKETS = Set.of("if", "for", "while", "switch", "return", "new");

    private static final int MOST_CLASSES = 12;
    private static final int MOST_FIELDS = 20;
    private static final int MOST_LINES = 60;
    private static final int MOST_PARAMETERS = 7;
    private static final int MOST_DEEP = 8;

    private static final List<String> TOKENS = new ArrayList<>();
    private static final Set<String> CLASSES = new HashSet<>();
    private static final List<Function> FUNCTIONS = new ArrayList<>();

    /** A method or constructor: its tokens from the first of its parameters on to its last brace. */
    private static final class Function {
        final String name;
        int parameters;
        int lines = 1;
        final List<String> body = new ArrayList<>();

        Function(String name) {
            this.name = name;
        }
    }

    public static void main(String[] args) throws IOException {
        List<String> withLines = tokens(Files.readString(SOURCE));
        TOKENS.addAll(withLines);
        TOKENS.removeIf(token -> token.equals("\n"));
        wordsThatAreNotHere();
        classesAndFunctions(withLines);
        libraryAndObjects();
        textsAndExceptions();
        sizes();
        depths();
        Check.end();
    }

    private static List<String> tokens(String text) {
        List<String> tokens = new ArrayList<>();
        // A comment of several lines leaves its lines behind: they count, but outside methods alone.
        Matcher matcher = TOKEN.matcher(COMMENT.matcher(text).replaceAll(""));
        while (matcher.find()) {
            tokens.add(matcher.group());
        }
        return tokens;
    }

    private static String at(int i) {
        return i >= 0 && i < TOKENS.size() ? TOKENS.get(i) : "";
    }

    private static boolean isName(String token) {
        return !token.isEmpty() && Character.isJavaIdentifierStart(token.charAt(0));
    }

    private static void fine(String what, boolean fine) {
        Check.is(what, 1, fine ? 1 : 0);
    }

    private static void wordsThatAreNotHere() {
        Check.about("rules 2, 3, 5, 6: words");
        for (String token : TOKENS) {
            fine(token + " is not used", !NOT_HERE.contains(token));
        }
    }

    // ---- what there is

    /** Fields are counted, functions taken. A brace is that of a class, of a function, or of what is in a function. */
    private static void classesAndFunctions(List<String> tokens) {
        Check.about("rules 5, 11: classes and fields");
        Deque<Integer> fields = new ArrayDeque<>();
        Function function = null;
        List<String> head = new ArrayList<>();
        int depth = 0;
        for (String token : tokens) {
            if (function != null) {
                depth += token.equals("{") ? 1 : token.equals("}") ? -1 : 0;
                function.lines += token.equals("\n") ? 1 : 0;
                function.body.add(token);
                function = depth == 0 && token.equals("}") ? null : function;
            } else if (token.equals("{") && head.contains("class")) {
                CLASSES.add(head.get(head.indexOf("class") + 1));
                fields.push(0);
                head.clear();
            } else if (token.equals("{")) {
                function = begun(head);
                function.body.add(token);
                depth = 1;
                head.clear();
            } else if (token.equals("}")) {
                fine("a class has " + fields.peek() + " fields", fields.pop() <= MOST_FIELDS);
            } else if (token.equals(";")) {
                field(head, fields);
                head.clear();
            } else if (!token.equals("\n")) {
                head.add(token);
            }
        }
        fine("there are " + CLASSES.size() + " classes", CLASSES.size() <= MOST_CLASSES);
    }

    private static void field(List<String> head, Deque<Integer> fields) {
        boolean constant = head.contains("static");
        fine(head + " is final", !constant || head.contains("final"));
        fine(head + " is no array", !constant || !head.contains("["));
        fields.push(fields.pop() + (constant ? 0 : 1));
    }

    private static Function begun(List<String> head) {
        int open = head.indexOf("(");
        fine(head + " begins a function", open >= 1);
        Function function = new Function(open >= 1 ? head.get(open - 1) : "");
        function.parameters = head.get(open + 1).equals(")") ? 0 : 1 + Collections.frequency(head, ",");
        if (head.contains("throws")) {
            List<String> thrown = head.subList(head.indexOf("throws"), head.size());
            function.parameters -= Collections.frequency(thrown, ",");
        }
        FUNCTIONS.add(function);
        return function;
    }

    // ---- rules

    private static void libraryAndObjects() {
        Check.about("rules 4, 12: the library and what is made");
        for (int i = 0; i < TOKENS.size(); i++) {
            if (Set.of("Math", "Long", "Integer", "System", "Arrays", "String").contains(at(i))) {
                fine(at(i) + "." + at(i + 2) + " is listed", LIBRARY.contains(at(i) + "." + at(i + 2)));
            }
        }
        for (Function function : FUNCTIONS) {
            boolean mayMake = CLASSES.contains(function.name) || function.name.equals("keep");
            for (int i = 0; i < function.body.size(); i++) {
                boolean made = function.body.get(i).equals("new") && !function.body.get(i - 1).equals("throw");
                fine(function.name + " makes no object", mayMake || !made);
            }
        }
    }

    private static void textsAndExceptions() {
        Check.about("rules 3, 4, 6, 10: texts and exceptions");
        for (int i = 0; i < TOKENS.size(); i++) {
            if (at(i).startsWith("\"")) {
                fine(at(i) + " is written out", at(i).chars().allMatch(c -> c >= 1 && c <= 127));
                fine(at(i) + " is of an exception", at(i - 4).equals("throw"));
            }
            if (at(i).equals("throw")) {
                String thrown = String.join(" ", TOKENS.subList(i + 1, i + 6));
                fine(thrown, thrown.matches("new \\w+ \\( \".*\" \\)") && EXCEPTIONS.contains(at(i + 2)));
            }
        }
        for (Function function : FUNCTIONS) {
            boolean throwsAtMaking = CLASSES.contains(function.name) && function.body.contains("throw");
            fine("the constructor " + function.name + " throws nothing", !throwsAtMaking);
        }
    }

    private static void sizes() {
        Check.about("rule 11: sizes");
        fine("there are functions", FUNCTIONS.size() > 100);
        for (Function function : FUNCTIONS) {
            fine(function.name + " has " + function.lines + " lines", function.lines <= MOST_LINES);
            fine(function.name + " has " + function.parameters + " parameters", function.parameters <= MOST_PARAMETERS);
        }
    }

    private static void depths() {
        Check.about("rules 8, 11: calls in calls");
        for (Function function : FUNCTIONS) {
            int deep = deep(function.name, 0);
            fine(function.name + " goes " + deep + " deep", deep <= MOST_DEEP);
        }
    }

    /** Functions of one name in several classes are taken for one. What calls itself comes to be too deep. */
    private static int deep(String name, int above) {
        int deepest = 0;
        for (Function function : FUNCTIONS) {
            for (int i = 0; function.name.equals(name) && above <= MOST_DEEP && i + 1 < function.body.size(); i++) {
                String called = function.body.get(i);
                if (function.body.get(i + 1).equals("(") && isName(called) && !AHEAD_OF_BRACKETS.contains(called)) {
                    deepest = Math.max(deepest, deep(called, above + 1));
                }
            }
        }
        return deepest + 1;
    }
}
