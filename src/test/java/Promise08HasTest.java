/** Promise 8: has. */
public final class Promise08HasTest {
    public static void main(String[] args) {
        Promise p = Promise.number(8);
        p.says("0 ROWS,", Promise08HasTest::rowsThere);
        p.says("1 COLUMNS,", Promise08HasTest::columnsThere);
        p.says("2 numbers in all COLUMNS,", Promise08HasTest::numbersThere);
        p.says("3 EMPTY CELLS,", Promise08HasTest::emptyCells);
        p.says("4 WIDTHS together,", Promise08HasTest::widthsTogether);
        p.says("5 ROWS that are EMPTY in all COLUMNS", Promise08HasTest::emptyRows);
        p.says("(all, without any),", Promise08HasTest::allRowsWithoutColumns);
        p.says("6 ACTS that an ArithmeticException kept from being done.", Promise08HasTest::actsKeptOut);
        p.says("6 ACTS that an ArithmeticException kept from being done.",
                Promise08HasTest::otherRefusalsAreNotCounted);
        p.says("6 ACTS that an ArithmeticException kept from being done.", Promise08HasTest::sumsAreNotCounted);
        p.says("6 ACTS that an ArithmeticException kept from being done.", Promise08HasTest::notOfAnImage);
        p.says("NONE for others.", Promise08HasTest::noneForOthers);
        p.end();
    }

    private static Run some() {
        return Run.table("8: 1 - 3 - -", "20: - - 6 7 -");
    }

    private static void rowsThere() {
        new Run().due("has(0)", 0);
        some().due("has(0)", 5);
        Run.rows(192).due("has(0)", 192).call("remove(0)").due("has(0)", 0);
    }

    private static void columnsThere() {
        new Run().due("has(1)", 0);
        some().due("has(1)", 2);
        Run.full(6, 2, 0).due("has(1)", 6).call("drop(0)").due("has(1)", 5);
    }

    private static void numbersThere() {
        new Run().due("has(2)", 0);
        some().due("has(2)", 4).call("drop(0)").due("has(2)", 2).call("wipe(0, 0)").due("has(2)", 0);
        Run.full(6, 2, 0).due("has(2)", 6 * 192).call("remove(0)").due("has(2)", 0);
    }

    private static void emptyCells() {
        new Run().due("has(3)", 0);
        Run.rows(5).due("has(3)", 0);
        some().due("has(3)", 6).call("drop(0)").due("has(3)", 3);
        Run.full(6, 2, 0).due("has(3)", 0).call("wipe(5, 0)").due("has(3)", 192);
        Run.rows(192).call("column(2)").call("column(3)").call("column(4)").call("column(5)").call("column(6)")
                .call("column(7)").due("has(3)", 6 * 192);
    }

    private static void widthsTogether() {
        new Run().due("has(4)", 0);
        some().due("has(4)", 28).call("widen(0, 63)").due("has(4)", 83).call("drop(1)").due("has(4)", 63);
        Run.full(6, 63, 0).due("has(4)", 378);
        Run.full(6, 2, 0).due("has(4)", 12);
    }

    private static void emptyRows() {
        some().due("has(5)", 2).call("set(1, 4, 0)").due("has(5)", 1).call("set(0, 1, 0)").due("has(5)", 0);
        Run.full(6, 2, 0).due("has(5)", 0).call("wipe(5, 0)").due("has(5)", 0);
        Run.rows(192).call("column(2)").due("has(5)", 192);
        Run.table("2:").due("has(5)", 0);
    }

    private static void allRowsWithoutColumns() {
        new Run().due("has(5)", 0);
        Run.rows(192).due("has(5)", 192);
        some().call("drop(0)").due("has(5)", 3).call("drop(0)").due("has(5)", 5);
    }

    /** The acts on numbers, and set(), which the terms name among them. */
    private static void actsKeptOut() {
        Run run = Run.table("63: MOST MOST MOST", "2: 1 1 1");
        String[] acts = {"set(1, 0, 2)", "add(0, 1, 0)", "plus(1, 0, false, 0)", "scale(1, 2, 0)", "shift(1, 1, 0)",
            "hold(1, 0, 2, 0)", "hold(1, -3, 2, 0)", "fill(1, 2, 0)", "copy(1, 0, 0)", "pick(1, 0, true, 0)",
            "widen(0, 62)"};
        for (int i = 0; i < acts.length; i++) {
            run.due("has(6)", i).doesNotFit(acts[i]).due("has(6)", i + 1);
        }
    }

    private static void otherRefusalsAreNotCounted() {
        Run.table("2: 1 -").refused("set(1, 0, 2)", Run.INDEX).refused("fill(0, 2, 8)", Run.INDEX)
                .refused("scale(0, 10, 0)", Run.ARGUMENT).refused("shift(0, 63, 0)", Run.ARGUMENT)
                .refused("hold(0, 3, 2, 0)", Run.ARGUMENT).refused("widen(0, 1)", Run.ARGUMENT)
                .refused("mean(0, 7, 0)", Run.STATE).refused("back(0)", Run.STATE).due("has(6)", 0);
    }

    private static void sumsAreNotCounted() {
        Run.table("63: MOST MOST 2")
                .refused("sum(0, 0)", Run.ARITHMETIC).refused("dot(0, 0, 0)", Run.ARITHMETIC)
                .refused("spread(0, 0)", Run.ARITHMETIC).refused("upTo(0, 2, 0)", Run.ARITHMETIC)
                .call("set(0, 1, LEAST)").call("set(0, 2, MOST)").refused("steps(0, 0)", Run.ARITHMETIC)
                .due("has(6)", 0);
    }

    /** An image is of the table and the masks alone. */
    private static void notOfAnImage() {
        Run.table("2: 1").doesNotFit("set(0, 0, 2)").call("keep(0)").doesNotFit("add(0, 1, 0)").call("back(0)")
                .due("has(6)", 2);
    }

    private static void noneForOthers() {
        for (Run run : new Run[] {new Run(), some()}) {
            run.due("has(7)", -1).due("has(-1)", -1).due("has(8)", -1).due("has(MIN)", -1).due("has(MAX)", -1);
        }
    }
}
