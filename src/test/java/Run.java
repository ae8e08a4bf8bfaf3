import java.lang.reflect.InvocationTargetException;
import java.lang.reflect.Method;
import java.util.ArrayList;
import java.util.HashMap;
import java.util.List;
import java.util.Map;

/**
 * A run of calls on a new object, each told as a text with the answer that is due: "set(0, 2, -5)". Numbers may be
 * told by a name: MIN and MAX (of an int or a long, as the call takes it), LEAST and MOST (of WIDTH 63), NONE, NOTHING.
 */
final class Run {
    static final Class<IndexOutOfBoundsException> INDEX = IndexOutOfBoundsException.class;
    static final Class<IllegalArgumentException> ARGUMENT = IllegalArgumentException.class;
    static final Class<IllegalStateException> STATE = IllegalStateException.class;
    static final Class<ArithmeticException> ARITHMETIC = ArithmeticException.class;

    static final long LEAST = -(1L << 62);
    static final long MOST = (1L << 62) - 1;
    static final long NOTHING = SliceColumns.NOTHING;

    private static final int MOST_CALLS = 512;
    private static final Map<String, Method> FACE = new HashMap<>();

    static {
        for (Method method : SliceColumns.class.getMethods()) {
            FACE.put(method.getName(), method);
        }
    }

    private final SliceColumns x = new SliceColumns();
    private final List<String> told = new ArrayList<>();

    /**
     * A table of some columns, a text each: "8: 5 -3 - 7" is a column of width 8 with four rows, the third EMPTY.
     * Mask 0 has all rows.
     */
    static Run table(String... columns) {
        Run run = new Run();
        for (int c = 0; c < columns.length; c++) {
            String[] parts = columns[c].split(":");
            String[] cells = parts.length == 1 ? new String[0] : parts[1].trim().split(" +");
            run.call("column(" + parts[0].trim() + ")");
            run.growTo(cells.length);
            for (int row = 0; row < cells.length; row++) {
                if (!cells[row].equals("-")) {
                    run.call("set(" + c + ", " + row + ", " + cells[row] + ")");
                }
            }
        }
        return run.call("mask(0, 0, 0, 0)");
    }

    /** Rows without columns. Mask 0 has all of them. */
    static Run rows(int rows) {
        return new Run().growTo(rows).call("mask(0, 0, 0, 0)");
    }

    /** 192 rows of some columns that have v in each cell. Mask 0 has all rows. */
    static Run full(int columns, int width, long v) {
        Run run = rows(192);
        for (int c = 0; c < columns; c++) {
            run.call("column(" + width + ")").call("fill(" + c + ", " + v + ", 0)");
        }
        return run;
    }

    /** 192 rows of one column that has in each row the number of this row. Mask 0 has all rows. */
    static Run ramp() {
        Run run = rows(192).call("column(9)");
        for (int row = 0; row < 192; row++) {
            run.call("set(0, " + row + ", " + row + ")");
        }
        return run;
    }

    Run growTo(int rows) {
        while (x.has(0) < rows) {
            call("rows(" + Math.min(64, rows - x.has(0)) + ")");
        }
        return this;
    }

    // ---- calls

    /** A call whose answer is looked at elsewhere; it must have one. */
    Run call(String text) {
        String outcome = outcome(text);
        Check.isText(text + " is answered", "yes", outcome.startsWith("java") ? outcome : "yes");
        return this;
    }

    Run due(String text, long answer) {
        Check.isText(text, Long.toString(answer), outcome(text));
        return this;
    }

    /** The exception is of this very class, and all is as if the call had not been. */
    Run refused(String text, Class<? extends RuntimeException> due) {
        return refused(text, due, 0);
    }

    /** An ACT that does not FIT: ArithmeticException, and all is as it was but for has(6). */
    Run doesNotFit(String text) {
        return refused(text, ARITHMETIC, 1);
    }

    private Run refused(String text, Class<? extends RuntimeException> due, int more) {
        Run without = again();
        Run with = again();
        Check.isText(text, due.getName(), with.outcome(text));
        Check.is("has(6) after " + text, without.x.has(6) + more, with.x.has(6));
        Check.isText("all after " + text, without.pictures(), with.pictures());
        outcome(text);
        return this;
    }

    private Run again() {
        Run again = new Run();
        for (String text : told) {
            again.outcome(text);
        }
        return again;
    }

    private String outcome(String text) {
        told.add(text);
        if (told.size() > MOST_CALLS) {
            throw new IllegalStateException("a run has 512 calls at most, not so many as to " + text);
        }
        return outcomeOf(x, text);
    }

    private static String outcomeOf(SliceColumns x, String text) {
        Method method = FACE.get(text.substring(0, text.indexOf('(')));
        String inside = text.substring(text.indexOf('(') + 1, text.length() - 1);
        String[] words = inside.isEmpty() ? new String[0] : inside.split(", ");
        Object[] arguments = new Object[words.length];
        for (int i = 0; i < words.length; i++) {
            arguments[i] = argument(words[i], method.getParameterTypes()[i]);
        }
        try {
            return String.valueOf(method.invoke(x, arguments));
        } catch (InvocationTargetException e) {
            return e.getCause().getClass().getName();
        } catch (IllegalAccessException e) {
            throw new IllegalStateException(text, e);
        }
    }

    private static Object argument(String word, Class<?> type) {
        if (type == boolean.class) {
            return Boolean.valueOf(word);
        }
        long number = number(word, type == int.class);
        if (type == int.class) {
            return Math.toIntExact(number);
        }
        return number;
    }

    private static long number(String word, boolean ofInt) {
        switch (word) {
            case "MIN":
                return ofInt ? Integer.MIN_VALUE : Long.MIN_VALUE;
            case "MAX":
                return ofInt ? Integer.MAX_VALUE : Long.MAX_VALUE;
            case "LEAST":
                return LEAST;
            case "MOST":
                return MOST;
            case "NONE":
                return SliceColumns.NONE;
            case "NOTHING":
                return SliceColumns.NOTHING;
            default:
                return Long.parseLong(word);
        }
    }

    // ---- refusals of one argument, which stands in the text as %

    Run noColumn(String text) {
        return refusedEach(text, INDEX, "-1", Integer.toString(x.has(1)), "6", "MIN", "MAX");
    }

    Run noRow(String text) {
        return refusedEach(text, INDEX, "-1", Integer.toString(x.has(0)), "192", "MIN", "MAX");
    }

    Run noMask(String text) {
        return refusedEach(text, INDEX, "-1", "8", "MIN", "MAX");
    }

    Run noWord(String text) {
        return refusedEach(text, INDEX, "-1", "3", "MIN", "MAX");
    }

    Run noImage(String text) {
        return refusedEach(text, INDEX, "-1", "2", "MIN", "MAX");
    }

    /** Of a column of this width. */
    Run noBit(String text, int width) {
        return refusedEach(text, INDEX, "-1", Integer.toString(width), "63", "64", "MIN", "MAX");
    }

    Run noNumber(String text, String... numbers) {
        return refusedEach(text, ARGUMENT, numbers);
    }

    private Run refusedEach(String text, Class<? extends RuntimeException> due, String... numbers) {
        for (String number : numbers) {
            refused(text.replace("%", number), due);
        }
        return this;
    }

    // ---- what is there

    /** The numbers of a column, as in "5 -3 - 7". */
    Run column(int column, String due) {
        Check.isText("column " + column + behind(), due, numbers(column));
        return this;
    }

    /** The rows of a mask, as in "0 3 4". */
    Run mask(int mask, String due) {
        StringBuilder all = new StringBuilder();
        for (int row = 0; row < 192; row++) {
            if ((x.word(mask, row / 64) >>> (row % 64) & 1) != 0) {
                all.append(all.length() == 0 ? "" : " ").append(row);
            }
        }
        Check.isText("mask " + mask + behind(), due, all.toString());
        return this;
    }

    /** All is as it is in another run. */
    Run like(Run other) {
        Check.isText("all" + behind(), other.picture(), picture());
        return this;
    }

    /** A call is answered as in another run, and all is as there then. */
    Run sameAs(Run other, String text) {
        Check.isText(text + behind(), other.outcome(text), outcome(text));
        return like(other);
    }

    private String behind() {
        return told.isEmpty() ? " of a new object" : " after " + told.get(told.size() - 1);
    }

    private String numbers(int column) {
        StringBuilder all = new StringBuilder();
        for (int row = 0; row < x.has(0); row++) {
            long v = x.get(column, row);
            all.append(row == 0 ? "" : " ").append(v == NOTHING ? "-" : Long.toString(v));
        }
        return all.toString();
    }

    /** All that the face shows of the table and the masks. */
    private String picture() {
        StringBuilder all = new StringBuilder();
        all.append(x.has(0)).append(" rows");
        for (int c = 0; c < x.has(1); c++) {
            all.append(" | ").append(x.width(c, 0)).append(':').append(numbers(c));
        }
        for (int m = 0; m < 8; m++) {
            all.append(" | ").append(x.word(m, 0)).append(' ').append(x.word(m, 1)).append(' ').append(x.word(m, 2));
        }
        return all.toString();
    }

    /** The picture of what is there and of both images. The run is of no use behind this. */
    private String pictures() {
        StringBuilder all = new StringBuilder(picture());
        for (int k = 0; k < 2; k++) {
            String back = outcomeOf(x, "back(" + k + ")");
            all.append("\n  image ").append(k).append(": ").append(back.startsWith("java") ? "none" : picture());
        }
        return all.toString();
    }
}
