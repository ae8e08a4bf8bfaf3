/** Promise 48: fill. */
public final class Promise48FillTest {
    public static void main(String[] args) {
        Promise p = Promise.number(48);
        p.says("All CELLS get v:", Promise48FillTest::allCells);
        p.says("All CELLS get v:", Promise48FillTest::underTheMask);
        p.says("how many were EMPTY.", Promise48FillTest::howManyWereEmpty);
        p.says("IndexOutOfBoundsException;", Promise48FillTest::noSuchColumnOrMask);
        p.says("ArithmeticException: v does not FIT", Promise48FillTest::edgesOfEachWidth);
        p.says("(also without ROWS).", Promise48FillTest::alsoWithoutRows);
        p.end();
    }

    private static void allCells() {
        Run.table("8: 5 - 0 100", "8: 1 - 1 1").due("fill(0, -7, 0)", 1).column(0, "-7 -7 -7 -7").column(1, "1 - 1 1");
        Run.rows(192).call("column(63)").due("fill(0, LEAST, 0)", 192).due("get(0, 0)", Run.LEAST)
                .due("get(0, 191)", Run.LEAST).due("has(3)", 0);
    }

    private static void underTheMask() {
        Run.table("8: 5 - 0 -").call("mask(1, 2, 1, 3)").due("fill(0, 9, 1)", 1).column(0, "5 9 9 -")
                .due("fill(0, 3, 7)", 0).column(0, "5 9 9 -");
    }

    private static void howManyWereEmpty() {
        Run.table("8: 1 -", "8: - 1").due("fill(1, 7, 0)", 1).column(0, "1 -").column(1, "7 7");
        Run.table("8: 1 1", "8: - -").due("fill(1, 7, 0)", 2).due("fill(0, 7, 0)", 0);
        Run.table("8: - - -").due("fill(0, 0, 0)", 3).due("fill(0, 0, 0)", 0).due("fill(0, 1, 0)", 0)
                .column(0, "1 1 1");
        Run.table("8: 1 - 1").due("fill(0, 1, 0)", 1);
    }

    private static void noSuchColumnOrMask() {
        Run.table("8: 1").noColumn("fill(%, 1, 0)").noMask("fill(0, 1, %)").noColumn("fill(%, 128, 0)")
                .noMask("fill(0, MIN, %)");
        new Run().noColumn("fill(%, 1, 0)");
    }

    private static void edgesOfEachWidth() {
        for (int width = 2; width <= 63; width++) {
            long least = -(1L << (width - 1));
            long most = (1L << (width - 1)) - 1;
            Run.table(width + ": 0 -").due("fill(0, " + least + ", 0)", 1).doesNotFit("fill(0, " + (least - 1) + ", 0)")
                    .column(0, least + " " + least).due("fill(0, " + most + ", 0)", 0)
                    .doesNotFit("fill(0, " + (most + 1) + ", 0)").column(0, most + " " + most)
                    .doesNotFit("fill(0, MIN, 0)").doesNotFit("fill(0, MAX, 0)");
        }
        Run.table("63: - -").doesNotFit("fill(0, NOTHING, 0)").column(0, "- -");
    }

    private static void alsoWithoutRows() {
        Run.table("2:").due("fill(0, 1, 0)", 0).due("fill(0, -2, 0)", 0).doesNotFit("fill(0, 2, 0)")
                .doesNotFit("fill(0, -3, 0)").due("has(6)", 2);
        Run.table("2: - 1").due("fill(0, 1, 7)", 0).doesNotFit("fill(0, 2, 7)").column(0, "- 1");
        Run.table("2: - 1").doesNotFit("fill(0, -3, 7)");
    }
}
