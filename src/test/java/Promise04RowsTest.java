/** Promise 4: rows. */
public final class Promise04RowsTest {
    public static void main(String[] args) {
        Promise p = Promise.number(4);
        p.says("n ROWS more (1 .. 64)", Promise04RowsTest::fewestAndMost);
        p.says("behind all,", Promise04RowsTest::behindAll);
        p.says("EMPTY in all COLUMNS,", Promise04RowsTest::emptyInAllColumns);
        p.says("EMPTY in all COLUMNS,", Promise04RowsTest::emptyWhereFullOnesWent);
        p.says("of no MASK:", Promise04RowsTest::ofNoMask);
        p.says("how many there are.", Promise04RowsTest::howManyThereAre);
        p.says("IllegalArgumentException;", Promise04RowsTest::noSuchNumber);
        p.says("IllegalStateException: there would be more than 192.", Promise04RowsTest::wouldBeTooMany);
        p.says("IllegalStateException: there would be more than 192.", Promise04RowsTest::noSuchNumberComesFirst);
        p.end();
    }

    private static void fewestAndMost() {
        new Run().due("rows(1)", 1).due("has(0)", 1);
        new Run().due("rows(64)", 64).due("has(0)", 64);
        for (int n = 1; n <= 64; n++) {
            new Run().call("rows(3)").due("rows(" + n + ")", 3 + n).due("has(0)", 3 + n);
        }
    }

    private static void behindAll() {
        Run.table("8: 1 - 3", "9: - 5 6").due("rows(2)", 5).column(0, "1 - 3 - -").column(1, "- 5 6 - -");
    }

    private static void emptyInAllColumns() {
        Run run = Run.full(6, 8, 1).call("mask(1, 2, 64, 192)").call("remove(1)").due("rows(64)", 128)
                .due("rows(64)", 192).due("has(2)", 6 * 64).due("has(3)", 6 * 128).due("has(5)", 128);
        for (int c = 0; c < 6; c++) {
            run.due("get(" + c + ", 63)", 1).due("get(" + c + ", 64)", Run.NOTHING)
                    .due("get(" + c + ", 191)", Run.NOTHING);
        }
    }

    private static void emptyWhereFullOnesWent() {
        Run.table("8: 1 2 3", "8: 4 5 6").call("mask(1, 2, 1, 3)").call("remove(1)").call("rows(2)")
                .column(0, "1 - -").column(1, "4 - -");
        Run.table("8: 1 2 3", "8: 4 5 6").call("remove(0)").call("rows(3)").column(0, "- - -").column(1, "- - -");
        // As few rows as an image had, in a table that has had more since.
        Run.table("8: 1").call("keep(0)").call("rows(2)").call("set(0, 2, 9)").call("back(0)").call("rows(2)")
                .column(0, "1 - -");
    }

    private static void ofNoMask() {
        Run run = Run.rows(63);
        for (int m = 0; m < 8; m++) {
            run.call("mask(" + m + ", 0, 0, 0)");
        }
        run.call("rows(1)").call("rows(1)");
        for (int m = 0; m < 8; m++) {
            run.due("row(" + m + ", NONE)", 63).due("word(" + m + ", 0)", Long.MAX_VALUE)
                    .due("word(" + m + ", 1)", 0);
        }
        // Bits beyond the rows that were given before there were such rows.
        Run.rows(1).call("bits(1, 0, -1)").call("bits(1, 1, -1)").call("bits(1, 2, -1)").growTo(192).mask(1, "0");
        Run.rows(192).call("remove(0)").growTo(192).mask(0, "");
    }

    private static void howManyThereAre() {
        Run run = new Run();
        for (int rows = 1; rows <= 192; rows++) {
            run.due("rows(1)", rows);
        }
        new Run().due("rows(64)", 64).due("rows(64)", 128).due("rows(63)", 191).due("rows(1)", 192);
    }

    private static void noSuchNumber() {
        new Run().noNumber("rows(%)", "0", "65", "-1", "-64", "192", "MIN", "MAX").due("has(0)", 0);
        Run.table("8: 1 2 3").noNumber("rows(%)", "0", "65", "-1", "MIN", "MAX").due("has(0)", 3);
    }

    private static void wouldBeTooMany() {
        Run.table("8: 1").growTo(128).due("rows(64)", 192).refused("rows(1)", Run.STATE).due("has(0)", 192);
        Run.table("8: 1").growTo(129).refused("rows(64)", Run.STATE).due("rows(63)", 192);
        Run.table("8: 1").growTo(191).refused("rows(2)", Run.STATE).due("rows(1)", 192)
                .refused("rows(64)", Run.STATE);
    }

    private static void noSuchNumberComesFirst() {
        Run.rows(192).noNumber("rows(%)", "0", "65", "-1", "MIN", "MAX");
    }
}
