/** Promise 2: column. */
public final class Promise02ColumnTest {
    public static void main(String[] args) {
        Promise p = Promise.number(2);
        p.says("A COLUMN more,", Promise02ColumnTest::oneMore);
        p.says("of a WIDTH,", Promise02ColumnTest::leastAndGreatestWidth);
        p.says("all EMPTY:", Promise02ColumnTest::allEmpty);
        p.says("all EMPTY:", Promise02ColumnTest::emptyWhereAFullOneWent);
        p.says("its number.", Promise02ColumnTest::itsNumber);
        p.says("IllegalArgumentException;", Promise02ColumnTest::noSuchWidth);
        p.says("IllegalStateException: 6 are there.", Promise02ColumnTest::sixAreThere);
        p.says("IllegalStateException: 6 are there.", Promise02ColumnTest::noSuchWidthComesFirst);
        p.end();
    }

    private static void oneMore() {
        Run.table("8: 1 - 3").due("column(5)", 1).due("has(1)", 2).due("has(0)", 3).due("has(4)", 13)
                .column(0, "1 - 3").mask(0, "0 1 2");
    }

    private static void leastAndGreatestWidth() {
        for (int width = 2; width <= 63; width++) {
            new Run().due("column(" + width + ")", 0).due("width(0, 0)", width);
        }
    }

    private static void allEmpty() {
        Run.rows(192).due("column(63)", 0).due("has(2)", 0).due("has(3)", 192).due("width(0, 1)", 0)
                .due("get(0, 0)", Run.NOTHING).due("get(0, 63)", Run.NOTHING).due("get(0, 64)", Run.NOTHING)
                .due("get(0, 191)", Run.NOTHING).due("empty(1, 0, 0)", 192);
        new Run().due("column(2)", 0).due("rows(2)", 2).column(0, "- -");
    }

    private static void emptyWhereAFullOneWent() {
        Run.full(1, 8, 7).due("drop(0)", 0).due("column(8)", 0).due("empty(1, 0, 0)", 192);
        Run.table("8: 1 2", "8: 3 4").call("drop(0)").due("column(8)", 1).column(0, "3 4").column(1, "- -");
        // Rows that had gone when the column came, and come again behind it.
        Run.table("8: 1 2 3").call("drop(0)").call("remove(0)").due("column(8)", 0).call("rows(3)").column(0, "- - -");
    }

    private static void itsNumber() {
        Run run = new Run();
        for (int c = 0; c < 6; c++) {
            run.due("column(" + (10 + c) + ")", c).due("width(" + c + ", 0)", 10 + c);
        }
        run.due("drop(2)", 5).due("column(9)", 5).due("width(5, 0)", 9).due("width(2, 0)", 13);
    }

    private static void noSuchWidth() {
        Run.table("8: 1 - 3").noNumber("column(%)", "1", "64", "0", "-1", "-2", "-63", "MIN", "MAX").due("has(1)", 1);
        new Run().noNumber("column(%)", "1", "64");
    }

    private static Run six() {
        return Run.table("2: 1 -", "3: 2 -", "4: 3 -", "5: 4 -", "6: 5 -", "7: 6 -");
    }

    private static void sixAreThere() {
        six().due("has(1)", 6).refused("column(2)", Run.STATE).refused("column(63)", Run.STATE).due("has(1)", 6)
                .due("drop(5)", 5).due("column(63)", 5).refused("column(2)", Run.STATE);
    }

    private static void noSuchWidthComesFirst() {
        six().noNumber("column(%)", "1", "64", "MIN", "MAX");
    }
}
