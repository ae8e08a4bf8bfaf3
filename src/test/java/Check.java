/** What the tests share: each answer against the one that is due, and an exit code at the end. */
final class Check {
    static final Class<IndexOutOfBoundsException> INDEX = IndexOutOfBoundsException.class;
    static final Class<IllegalArgumentException> ARGUMENT = IllegalArgumentException.class;
    static final Class<IllegalStateException> STATE = IllegalStateException.class;
    static final Class<ArithmeticException> ARITHMETIC = ArithmeticException.class;

    private static int checks = 0;
    private static int wrong = 0;

    interface Call {
        long answer();
    }

    private Check() {
    }

    static void is(String what, long due, long got) {
        checks++;
        if (due != got) {
            say(what + " answered " + got + ", due is " + due);
        }
    }

    static void isText(String what, String due, String got) {
        checks++;
        if (!due.equals(got)) {
            say(what + ":\n  got " + got + "\n  due " + due);
        }
    }

    /** The very class is due: the machine's own exceptions are subclasses of those that the document names. */
    static void refused(String what, Class<? extends RuntimeException> due, Call call) {
        checks++;
        try {
            say(what + " answered " + call.answer() + ", due is " + due.getSimpleName());
        } catch (RuntimeException e) {
            if (e.getClass() != due) {
                say(what + " threw " + e + ", due is " + due.getSimpleName());
            }
        }
    }

    /** As refused(), and the table, the masks and, but for an act that does not fit, the counter stay. */
    static void refusedUnchanged(SliceColumns x, String what, Class<? extends RuntimeException> due, Call call) {
        String before = picture(x);
        int refusals = x.has(6);
        refused(what, due, call);
        isText("state after " + what, before, picture(x));
        is("has(6) after " + what, refusals, x.has(6));
    }

    static void actRefused(SliceColumns x, String what, Call call) {
        String before = picture(x);
        int refusals = x.has(6);
        refused(what, ARITHMETIC, call);
        isText("state after " + what, before, picture(x));
        is("has(6) after " + what, refusals + 1, x.has(6));
    }

    /** All that the face shows of the table and the masks. */
    static String picture(SliceColumns x) {
        StringBuilder all = new StringBuilder();
        all.append(x.has(0)).append(" rows");
        for (int c = 0; c < x.has(1); c++) {
            all.append(" | ").append(x.width(c, 0)).append(':').append(numbers(x, c));
        }
        for (int m = 0; m < 8; m++) {
            all.append(" | ").append(x.word(m, 0)).append(' ').append(x.word(m, 1)).append(' ').append(x.word(m, 2));
        }
        return all.toString();
    }

    static String numbers(SliceColumns x, int column) {
        StringBuilder all = new StringBuilder();
        for (int row = 0; row < x.has(0); row++) {
            long v = x.get(column, row);
            all.append(row == 0 ? "" : " ").append(v == SliceColumns.NOTHING ? "-" : Long.toString(v));
        }
        return all.toString();
    }

    static void column(SliceColumns x, int column, String due) {
        isText("column " + column, due, numbers(x, column));
    }

    /** The rows of a mask, as in "0 3 4". */
    static void mask(SliceColumns x, String what, int mask, String due) {
        StringBuilder all = new StringBuilder();
        for (int row = 0; row < 192; row++) {
            if ((x.word(mask, row / 64) >>> (row % 64) & 1) != 0) {
                all.append(all.length() == 0 ? "" : " ").append(row);
            }
        }
        isText("mask " + mask + " after " + what, due, all.toString());
    }

    /** A table of some columns in one row of text each: "8: 5 -3 - 7" is a column of width 8 with four rows. */
    static SliceColumns table(String... columns) {
        SliceColumns x = new SliceColumns();
        for (String text : columns) {
            String[] parts = text.split(":");
            String[] cells = parts.length == 1 ? new String[0] : parts[1].trim().split(" +");
            int column = x.column(Integer.parseInt(parts[0].trim()));
            while (x.has(0) < cells.length) {
                x.rows(Math.min(64, cells.length - x.has(0)));
            }
            for (int row = 0; row < cells.length; row++) {
                if (!cells[row].equals("-")) {
                    x.set(column, row, Long.parseLong(cells[row]));
                }
            }
        }
        x.mask(0, 0, 0, 0);
        return x;
    }

    static void end() {
        System.out.println(checks + " checks, " + wrong + " wrong");
        if (wrong != 0 || checks == 0) {
            System.exit(1);
        }
    }

    private static void say(String text) {
        wrong++;
        if (wrong <= 40) {
            System.out.println(text);
        }
    }
}
