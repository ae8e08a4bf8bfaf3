/** Promise 49: copy. */
public final class Promise49CopyTest {
    public static void main(String[] args) {
        Promise p = Promise.number(49);
        p.says("CELLS get what another COLUMN has there", Promise49CopyTest::whatAnotherHas);
        p.says("CELLS get what another COLUMN has there", Promise49CopyTest::underTheMask);
        p.says("CELLS get what another COLUMN has there", Promise49CopyTest::otherColumnsStay);
        p.says("CELLS get what another COLUMN has there", Promise49CopyTest::ofItself);
        p.says("(EMPTY, too):", Promise49CopyTest::emptyToo);
        p.says("in how many ROWS it is something else then.", Promise49CopyTest::somethingElse);
        p.says("IndexOutOfBoundsException;", Promise49CopyTest::noSuchColumnOrMask);
        p.says("ArithmeticException.", Promise49CopyTest::allOrNone);
        p.says("ArithmeticException.", Promise49CopyTest::edgesOfWidths);
        p.end();
    }

    private static void whatAnotherHas() {
        Run.table("8: 5 - -3", "20: 7 8 9").due("copy(0, 1, 0)", 3).column(0, "7 8 9").column(1, "7 8 9")
                .due("width(0, 0)", 8);
    }

    private static void otherColumnsStay() {
        Run.table("8: 9 9 9", "8: 1 2 3", "8: 10 20 -").due("copy(1, 2, 0)", 3).column(0, "9 9 9").column(1, "10 20 -")
                .column(2, "10 20 -");
    }

    private static void underTheMask() {
        Run.table("8: 1 2 3 4", "20: 5 6 - 1000").call("mask(1, 2, 1, 3)").due("copy(0, 1, 1)", 2).column(0, "1 6 - 4")
                .due("copy(0, 1, 7)", 0).column(0, "1 6 - 4");
    }

    /** The document names no refusal for it. */
    private static void ofItself() {
        Run.table("8: 5 - -3").due("copy(0, 0, 0)", 0).column(0, "5 - -3");
    }

    private static void emptyToo() {
        Run.table("8: 5 - 0", "20: - - -").due("copy(0, 1, 0)", 2).column(0, "- - -").due("has(2)", 0);
        Run.table("8: - 1", "63: 1 -").due("copy(0, 1, 0)", 2).column(0, "1 -");
    }

    private static void somethingElse() {
        Run.table("8: 5 - 0 - 9 9", "20: 5 6 - - 10 9").due("copy(0, 1, 0)", 3).column(0, "5 6 - - 10 9")
                .due("copy(0, 1, 0)", 0);
        Run.full(6, 8, 1).call("fill(5, 2, 0)").due("copy(0, 5, 0)", 192).due("get(0, 191)", 2)
                .due("copy(0, 5, 0)", 0).call("wipe(5, 0)").due("copy(0, 5, 0)", 192).due("get(0, 191)", Run.NOTHING);
        Run.table("8:", "8:").due("copy(0, 1, 0)", 0);
    }

    private static void noSuchColumnOrMask() {
        Run.table("8: 1", "20: 1000").noColumn("copy(%, 1, 0)").noColumn("copy(0, %, 0)").noMask("copy(0, 1, %)")
                .noColumn("copy(%, %, 0)");
        new Run().noColumn("copy(%, %, 0)");
    }

    private static void allOrNone() {
        Run.table("8: 1 2 3 4", "20: 5 128 - 6").doesNotFit("copy(0, 1, 0)").column(0, "1 2 3 4")
                .call("set(1, 1, 127)").due("copy(0, 1, 0)", 4).column(0, "5 127 - 6").call("set(1, 3, -129)")
                .doesNotFit("copy(0, 1, 0)").call("set(1, 3, -128)").due("copy(0, 1, 0)", 1);
        Run.full(2, 8, 1).call("widen(1, 9)").call("fill(1, 5, 0)").call("set(1, 191, 128)")
                .doesNotFit("copy(0, 1, 0)").due("get(0, 0)", 1).call("mask(1, 2, 0, 191)").due("copy(0, 1, 1)", 191);
        // An EMPTY cell, too, stays so.
        Run.table("2: - -", "3: 1 2").doesNotFit("copy(0, 1, 0)").column(0, "- -");
    }

    private static void edgesOfWidths() {
        for (int width = 2; width <= 62; width++) {
            long least = -(1L << (width - 1));
            long most = (1L << (width - 1)) - 1;
            Run.table(width + ": - -", "63: " + least + " " + most).due("copy(0, 1, 0)", 2)
                    .column(0, least + " " + most).call("set(1, 1, " + (most + 1) + ")").doesNotFit("copy(0, 1, 0)")
                    .call("set(1, 1, " + (least - 1) + ")").doesNotFit("copy(0, 1, 0)")
                    .due("copy(1, 0, 0)", 1).column(1, least + " " + most);
        }
        Run.table("63: 0 0", "63: LEAST MOST").due("copy(0, 1, 0)", 2).column(0, Run.LEAST + " " + Run.MOST);
    }
}
