/** Promise 58: keep. */
public final class Promise58KeepTest {
    public static void main(String[] args) {
        Promise p = Promise.number(58);
        p.says("IMAGE k (0, 1)", Promise58KeepTest::eachImageApart);
        p.says("of the table", Promise58KeepTest::ofTheTable);
        p.says("of the table", Promise58KeepTest::ofAllColumns);
        p.says("and all MASKS", Promise58KeepTest::ofAllMasks);
        p.says("is kept:", Promise58KeepTest::nothingElseChanges);
        p.says("is kept:", Promise58KeepTest::keptAnew);
        p.says("ROWS.", Promise58KeepTest::howManyRows);
        p.says("IndexOutOfBoundsException.", Promise58KeepTest::noSuchImage);
        p.end();
    }

    private static Run two() {
        return Run.table("8: 3 1 - 2", "20: 10 - - 13").call("bits(1, 0, 5)");
    }

    private static void eachImageApart() {
        Run later = two().call("set(0, 0, 9)").call("rows(1)").call("turn(1, 1)");
        two().call("keep(0)").call("set(0, 0, 9)").call("rows(1)").call("turn(1, 1)").call("keep(1)").call("remove(0)")
                .call("back(0)").like(two()).call("back(1)").like(later).call("back(0)").like(two());
    }

    /** What is changed behind keep() is not of the image: numbers, EMPTY cells, WIDTHS, COLUMNS, ROWS. */
    private static void ofTheTable() {
        String[] changes = {"set(0, 0, 99)", "clear(1, 3)", "set(1, 1, 5)", "fill(0, 7, 0)", "wipe(1, 0)",
            "widen(0, 40)", "column(5)", "drop(0)", "drop(1)", "rows(60)", "remove(1)", "first(1)", "reverse()",
            "sort(0, true)", "swap(0, 1)", "add(0, 1, 0)"};
        for (String change : changes) {
            two().call("keep(0)").call(change).due("back(0)", 4).like(two());
            two().call("keep(1)").call(change).due("back(1)", 4).like(two());
        }
    }

    private static Run sixColumns() {
        Run run = Run.rows(192);
        for (int c = 0; c < 6; c++) {
            run.call("column(" + (10 + c) + ")").call("fill(" + c + ", " + c + ", 0)")
                    .call("clear(" + c + ", " + c + ")");
        }
        return run;
    }

    private static void ofAllColumns() {
        for (int k = 0; k < 2; k++) {
            Run run = sixColumns().due("keep(" + k + ")", 192);
            for (int c = 0; c < 6; c++) {
                run.call("fill(" + c + ", 9, 0)").call("widen(" + c + ", 5)");
            }
            run.due("back(" + k + ")", 192).like(sixColumns());
        }
    }

    private static void ofAllMasks() {
        Run kept = Run.rows(192);
        Run run = Run.rows(192);
        for (int m = 0; m < 8; m++) {
            kept.call("mask(" + m + ", 3, 9, " + m + ")");
            run.call("mask(" + m + ", 3, 9, " + m + ")");
        }
        run.call("keep(0)");
        for (int m = 0; m < 8; m++) {
            run.call("turn(" + m + ", " + m + ")");
        }
        run.call("back(0)").like(kept);
    }

    private static void nothingElseChanges() {
        two().call("keep(0)").like(two()).call("keep(1)").like(two());
    }

    private static void keptAnew() {
        Run later = two().call("set(0, 0, 9)").call("drop(1)");
        two().call("keep(0)").call("set(0, 0, 9)").call("drop(1)").call("keep(0)").call("wipe(0, 0)").call("back(0)")
                .like(later);
        two().call("keep(0)").call("remove(0)").call("drop(0)").call("drop(0)").due("keep(0)", 0).call("rows(3)")
                .due("back(0)", 0).like(new Run());
    }

    private static void howManyRows() {
        new Run().due("keep(0)", 0).due("keep(1)", 0);
        two().due("keep(0)", 4).due("keep(1)", 4);
        Run.full(6, 63, Run.MOST).due("keep(0)", 192).call("remove(0)").due("keep(1)", 0);
    }

    private static void noSuchImage() {
        two().noImage("keep(%)").call("keep(0)").call("keep(1)").noImage("keep(%)");
        new Run().noImage("keep(%)");
    }
}
