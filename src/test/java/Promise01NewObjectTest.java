/** Promise 1: a new object. */
public final class Promise01NewObjectTest {
    public static void main(String[] args) {
        Promise p = Promise.number(1);
        p.says("No ROWS,", Promise01NewObjectTest::noRows);
        p.says("no COLUMNS.", Promise01NewObjectTest::noColumns);
        p.end();
    }

    private static void noRows() {
        new Run().due("has(0)", 0).due("has(5)", 0).due("reverse()", 0).due("mask(0, 0, 0, 0)", 0)
                .due("turn(0, 0)", 0).due("bits(0, 0, -1)", 0).due("mask(0, 2, 0, 0)", 0)
                .refused("mask(0, 2, 0, 1)", Run.ARGUMENT).refused("alike(0, 0)", Run.INDEX);
        new Run().due("column(8)", 0).due("has(3)", 0).column(0, "").due("sort(0, false)", 0)
                .noRow("get(0, %)").noRow("set(0, %, 1)").noRow("clear(0, %)").noRow("upTo(0, %, 0)");
        new Run().due("rows(1)", 1);
    }

    private static void noColumns() {
        new Run().due("has(1)", 0).due("has(2)", 0).due("has(3)", 0).due("has(4)", 0).due("has(6)", 0)
                .noColumn("drop(%)").noColumn("width(%, 0)").noColumn("swap(%, %)").noColumn("sort(%, true)");
        Run.rows(2).due("has(1)", 0).due("has(3)", 0).noColumn("get(%, 0)").noColumn("count(%, 0)");
        new Run().due("column(2)", 0);
    }
}
