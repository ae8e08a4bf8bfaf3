/** Promise 5: set. */
public final class Promise05SetTest {
    public static void main(String[] args) {
        Promise p = Promise.number(5);
        p.says("A number comes to a CELL:", Promise05SetTest::aNumberComes);
        p.says("A number comes to a CELL:", Promise05SetTest::firstAndLastCell);
        p.says("1 if that was EMPTY, else 0.", Promise05SetTest::whetherItWasEmpty);
        p.says("IndexOutOfBoundsException;", Promise05SetTest::noSuchCell);
        p.says("ArithmeticException: it does not FIT.", Promise05SetTest::edgesOfEachWidth);
        p.says("ArithmeticException: it does not FIT.", Promise05SetTest::edgesOfALong);
        p.says("ArithmeticException: it does not FIT.", Promise05SetTest::anEmptyCellStaysSo);
        p.end();
    }

    private static void aNumberComes() {
        Run.table("8: - 4 -", "9: - - -").due("set(0, 0, -5)", 1).due("set(1, 2, 200)", 1)
                .column(0, "-5 4 -").column(1, "- - 200").due("has(2)", 3);
    }

    private static void firstAndLastCell() {
        Run run = Run.rows(192);
        for (int c = 0; c < 6; c++) {
            run.call("column(63)").due("set(" + c + ", 0, LEAST)", 1).due("set(" + c + ", 191, MOST)", 1)
                    .due("get(" + c + ", 0)", Run.LEAST).due("get(" + c + ", 191)", Run.MOST);
        }
        run.due("has(2)", 12);
    }

    private static void whetherItWasEmpty() {
        Run.table("8: - 0").due("set(0, 0, 0)", 1).due("set(0, 0, 0)", 0).due("set(0, 0, 1)", 0)
                .due("set(0, 1, 0)", 0).due("clear(0, 1)", 1).due("set(0, 1, 0)", 1).column(0, "1 0");
        Run.table("2: 1 -", "2: - 1").due("set(1, 0, 0)", 1).due("set(1, 1, 0)", 0).column(0, "1 -").column(1, "0 0");
    }

    private static void noSuchCell() {
        Run.table("8: 1 -", "9: 2 3").noColumn("set(%, 0, 1)").noRow("set(0, %, 1)")
                .noColumn("set(%, 0, MAX)").noRow("set(0, %, MIN)").noColumn("set(%, -1, 1)").noRow("set(2, %, 1)");
        Run.full(6, 8, 0).noColumn("set(%, 191, 1)").noRow("set(5, %, 1)");
    }

    private static void edgesOfEachWidth() {
        for (int width = 2; width <= 63; width++) {
            long least = -(1L << (width - 1));
            long most = (1L << (width - 1)) - 1;
            new Run().call("column(" + width + ")").call("rows(1)")
                    .due("set(0, 0, " + least + ")", 1).due("get(0, 0)", least)
                    .doesNotFit("set(0, 0, " + (least - 1) + ")").due("get(0, 0)", least)
                    .due("set(0, 0, " + most + ")", 0).due("get(0, 0)", most)
                    .doesNotFit("set(0, 0, " + (most + 1) + ")").due("get(0, 0)", most);
        }
    }

    private static void edgesOfALong() {
        Run.table("63: 7").doesNotFit("set(0, 0, MIN)").doesNotFit("set(0, 0, MAX)").doesNotFit("set(0, 0, NOTHING)")
                .doesNotFit("set(0, 0, " + -Long.MAX_VALUE + ")").column(0, "7");
        // Numbers whose lowest bits alone would FIT.
        Run.table("2: 1").doesNotFit("set(0, 0, 4)").doesNotFit("set(0, 0, 4294967296)").doesNotFit("set(0, 0, MIN)");
    }

    private static void anEmptyCellStaysSo() {
        Run.table("2: -").doesNotFit("set(0, 0, 2)").column(0, "-").due("has(2)", 0).due("set(0, 0, 1)", 1);
    }
}
